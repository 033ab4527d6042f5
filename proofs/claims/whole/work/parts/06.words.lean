theorem iw0 {c0 : Cond} : ∀ w ∈ u_ws (cR_ 0) (cT_ 0) (cN_ 0), w ∈ c0 :: G_ := fun w hw => by
  obtain ⟨k, hk, rfl⟩ := List.mem_map.mp hw
  exact G_w ((lt_s (lt_s (lt_s (lt_s (lt_s (lt_s (lt_s (lt_s (lt_s (lt_s (lt_s (lt_s (lt_s (lt_s (lt_s (lt_s (lt_s (lt_s (lt_0) (G_1 (i := 200) rfl rfl)) (G_1 (i := 202) rfl rfl)) (G_1 (i := 204) rfl rfl)) (G_1 (i := 206) rfl rfl)) (G_1 (i := 208) rfl rfl)) (G_1 (i := 210) rfl rfl)) (G_1 (i := 212) rfl rfl)) (G_1 (i := 214) rfl rfl)) (G_1 (i := 216) rfl rfl)) (G_1 (i := 218) rfl rfl)) (G_1 (i := 220) rfl rfl)) (G_1 (i := 222) rfl rfl)) (G_1 (i := 224) rfl rfl)) (G_1 (i := 226) rfl rfl)) (G_1 (i := 228) rfl rfl)) (G_1 (i := 230) rfl rfl)) (G_1 (i := 232) rfl rfl)) (G_1 (i := 234) rfl rfl) : ∀ k, k < 18 → u_lay RX0 TX0 k ∈ G_) k (List.mem_range.mp hk))
theorem iw1 {c0 : Cond} : ∀ w ∈ u_ws (cR_ 1) (cT_ 1) (cN_ 1), w ∈ c0 :: G_ := fun w hw => by
  obtain ⟨k, hk, rfl⟩ := List.mem_map.mp hw
  exact G_w ((lt_s (lt_s (lt_s (lt_s (lt_s (lt_s (lt_s (lt_s (lt_s (lt_s (lt_0) (G_3 (i := 45) rfl rfl)) (G_3 (i := 47) rfl rfl)) (G_3 (i := 49) rfl rfl)) (G_3 (i := 51) rfl rfl)) (G_3 (i := 53) rfl rfl)) (G_3 (i := 55) rfl rfl)) (G_3 (i := 57) rfl rfl)) (G_3 (i := 59) rfl rfl)) (G_3 (i := 61) rfl rfl)) (G_3 (i := 63) rfl rfl) : ∀ k, k < 10 → u_lay RX1 TX1 k ∈ G_) k (List.mem_range.mp hk))
theorem iw2 {c0 : Cond} : ∀ w ∈ u_ws (cR_ 2) (cT_ 2) (cN_ 2), w ∈ c0 :: G_ := fun w hw => by
  obtain ⟨k, hk, rfl⟩ := List.mem_map.mp hw
  exact G_w ((lt_s (lt_s (lt_s (lt_s (lt_s (lt_0) (G_2 (i := 225) rfl rfl)) (G_2 (i := 227) rfl rfl)) (G_2 (i := 229) rfl rfl)) (G_2 (i := 231) rfl rfl)) (G_2 (i := 233) rfl rfl) : ∀ k, k < 5 → u_lay RX2 TX2 k ∈ G_) k (List.mem_range.mp hk))
theorem iw3 {c0 : Cond} : ∀ w ∈ u_ws (cR_ 3) (cT_ 3) (cN_ 3), w ∈ c0 :: G_ := fun w hw => by
  obtain ⟨k, hk, rfl⟩ := List.mem_map.mp hw
  exact G_w ((lt_s (lt_s (lt_s (lt_s (lt_s (lt_s (lt_s (lt_0) (G_2 (i := 156) rfl rfl)) (G_2 (i := 158) rfl rfl)) (G_2 (i := 160) rfl rfl)) (G_2 (i := 162) rfl rfl)) (G_2 (i := 164) rfl rfl)) (G_2 (i := 166) rfl rfl)) (G_2 (i := 168) rfl rfl) : ∀ k, k < 7 → u_lay RX3 TX3 k ∈ G_) k (List.mem_range.mp hk))
theorem iw4 {c0 : Cond} : ∀ w ∈ u_ws (cR_ 4) (cT_ 4) (cN_ 4), w ∈ c0 :: G_ := fun w hw => by
  obtain ⟨k, hk, rfl⟩ := List.mem_map.mp hw
  exact G_w ((lt_s (lt_s (lt_s (lt_s (lt_s (lt_0) (G_2 (i := 126) rfl rfl)) (G_2 (i := 128) rfl rfl)) (G_2 (i := 130) rfl rfl)) (G_2 (i := 132) rfl rfl)) (G_2 (i := 134) rfl rfl) : ∀ k, k < 5 → u_lay RX4 TX4 k ∈ G_) k (List.mem_range.mp hk))
theorem iw5 {c0 : Cond} : ∀ w ∈ u_ws (cR_ 5) (cT_ 5) (cN_ 5), w ∈ c0 :: G_ := fun w hw => by
  obtain ⟨k, hk, rfl⟩ := List.mem_map.mp hw
  exact G_w ((lt_s (lt_s (lt_s (lt_s (lt_s (lt_s (lt_s (lt_s (lt_s (lt_s (lt_0) (G_2 (i := 92) rfl rfl)) (G_2 (i := 94) rfl rfl)) (G_2 (i := 96) rfl rfl)) (G_2 (i := 98) rfl rfl)) (G_2 (i := 100) rfl rfl)) (G_2 (i := 102) rfl rfl)) (G_2 (i := 104) rfl rfl)) (G_2 (i := 106) rfl rfl)) (G_2 (i := 108) rfl rfl)) (G_2 (i := 110) rfl rfl) : ∀ k, k < 10 → u_lay RX5 TX5 k ∈ G_) k (List.mem_range.mp hk))
theorem iw6 {c0 : Cond} : ∀ w ∈ u_ws (cR_ 6) (cT_ 6) (cN_ 6), w ∈ c0 :: G_ := fun w hw => by
  obtain ⟨k, hk, rfl⟩ := List.mem_map.mp hw
  exact G_w ((lt_s (lt_s (lt_s (lt_s (lt_s (lt_0) (G_2 (i := 23) rfl rfl)) (G_2 (i := 25) rfl rfl)) (G_2 (i := 27) rfl rfl)) (G_2 (i := 29) rfl rfl)) (G_2 (i := 31) rfl rfl) : ∀ k, k < 5 → u_lay RX6 TX6 k ∈ G_) k (List.mem_range.mp hk))
theorem iw7 {c0 : Cond} : ∀ w ∈ u_ws (cR_ 7) (cT_ 7) (cN_ 7), w ∈ c0 :: G_ := fun w hw => by
  obtain ⟨k, hk, rfl⟩ := List.mem_map.mp hw
  exact G_w ((lt_s (lt_s (lt_s (lt_s (lt_s (lt_s (lt_s (lt_0) (G_3 (i := 11) rfl rfl)) (G_3 (i := 13) rfl rfl)) (G_3 (i := 15) rfl rfl)) (G_3 (i := 17) rfl rfl)) (G_3 (i := 19) rfl rfl)) (G_3 (i := 21) rfl rfl)) (G_3 (i := 23) rfl rfl) : ∀ k, k < 7 → u_lay RX7 TX7 k ∈ G_) k (List.mem_range.mp hk))
theorem iw8 {c0 : Cond} : ∀ w ∈ u_ws (cR_ 8) (cT_ 8) (cN_ 8), w ∈ c0 :: G_ := fun w hw => by
  obtain ⟨k, hk, rfl⟩ := List.mem_map.mp hw
  exact G_w ((lt_s (lt_s (lt_s (lt_s (lt_s (lt_s (lt_s (lt_s (lt_s (lt_s (lt_s (lt_0) (G_1 (i := 109) rfl rfl)) (G_1 (i := 111) rfl rfl)) (G_1 (i := 113) rfl rfl)) (G_1 (i := 115) rfl rfl)) (G_1 (i := 117) rfl rfl)) (G_1 (i := 119) rfl rfl)) (G_1 (i := 121) rfl rfl)) (G_1 (i := 123) rfl rfl)) (G_1 (i := 125) rfl rfl)) (G_1 (i := 127) rfl rfl)) (G_1 (i := 129) rfl rfl) : ∀ k, k < 11 → u_lay RX8 TX8 k ∈ G_) k (List.mem_range.mp hk))
theorem iw9 {c0 : Cond} : ∀ w ∈ u_ws (cR_ 9) (cT_ 9) (cN_ 9), w ∈ c0 :: G_ := fun w hw => by
  obtain ⟨k, hk, rfl⟩ := List.mem_map.mp hw
  exact G_w ((lt_s (lt_s (lt_s (lt_s (lt_s (lt_s (lt_0) (G_2 (i := 47) rfl rfl)) (G_2 (i := 49) rfl rfl)) (G_2 (i := 51) rfl rfl)) (G_2 (i := 53) rfl rfl)) (G_2 (i := 55) rfl rfl)) (G_2 (i := 57) rfl rfl) : ∀ k, k < 6 → u_lay RX9 TX9 k ∈ G_) k (List.mem_range.mp hk))
theorem iw10 {c0 : Cond} : ∀ w ∈ u_ws (cR_ 10) (cT_ 10) (cN_ 10), w ∈ c0 :: G_ := fun w hw => by
  obtain ⟨k, hk, rfl⟩ := List.mem_map.mp hw
  exact G_w ((lt_s (lt_s (lt_s (lt_s (lt_s (lt_s (lt_s (lt_s (lt_s (lt_s (lt_0) (G_2 (i := 189) rfl rfl)) (G_2 (i := 191) rfl rfl)) (G_2 (i := 193) rfl rfl)) (G_2 (i := 195) rfl rfl)) (G_2 (i := 197) rfl rfl)) (G_2 (i := 199) rfl rfl)) (G_2 (i := 201) rfl rfl)) (G_2 (i := 203) rfl rfl)) (G_2 (i := 205) rfl rfl)) (G_2 (i := 207) rfl rfl) : ∀ k, k < 10 → u_lay RX10 TX10 k ∈ G_) k (List.mem_range.mp hk))
theorem iw11 {c0 : Cond} : ∀ w ∈ u_ws (cR_ 11) (cT_ 11) (cN_ 11), w ∈ c0 :: G_ := fun w hw => by
  obtain ⟨k, hk, rfl⟩ := List.mem_map.mp hw
  exact G_w ((lt_s (lt_s (lt_s (lt_s (lt_s (lt_s (lt_s (lt_s (lt_s (lt_s (lt_s (lt_s (lt_s (lt_s (lt_s (lt_s (lt_s (lt_s (lt_s (lt_s (lt_0) (G_3 (i := 89) rfl rfl)) (G_3 (i := 91) rfl rfl)) (G_3 (i := 93) rfl rfl)) (G_3 (i := 95) rfl rfl)) (G_3 (i := 97) rfl rfl)) (G_3 (i := 99) rfl rfl)) (G_3 (i := 101) rfl rfl)) (G_3 (i := 103) rfl rfl)) (G_3 (i := 105) rfl rfl)) (G_3 (i := 107) rfl rfl)) (G_3 (i := 109) rfl rfl)) (G_3 (i := 111) rfl rfl)) (G_3 (i := 113) rfl rfl)) (G_3 (i := 115) rfl rfl)) (G_3 (i := 117) rfl rfl)) (G_3 (i := 119) rfl rfl)) (G_3 (i := 121) rfl rfl)) (G_3 (i := 123) rfl rfl)) (G_3 (i := 125) rfl rfl)) (G_3 (i := 127) rfl rfl) : ∀ k, k < 20 → u_lay RX11 TX11 k ∈ G_) k (List.mem_range.mp hk))
theorem iw12 {c0 : Cond} : ∀ w ∈ u_ws (cR_ 12) (cT_ 12) (cN_ 12), w ∈ c0 :: G_ := fun w hw => by
  obtain ⟨k, hk, rfl⟩ := List.mem_map.mp hw
  exact G_w ((lt_s (lt_s (lt_s (lt_s (lt_s (lt_s (lt_s (lt_s (lt_s (lt_s (lt_s (lt_s (lt_s (lt_s (lt_s (lt_s (lt_s (lt_s (lt_s (lt_s (lt_s (lt_s (lt_s (lt_s (lt_s (lt_s (lt_s (lt_s (lt_s (lt_s (lt_s (lt_s (lt_s (lt_s (lt_s (lt_s (lt_s (lt_s (lt_s (lt_s (lt_s (lt_s (lt_s (lt_s (lt_s (lt_s (lt_s (lt_s (lt_s (lt_s (lt_s (lt_s (lt_s (lt_s (lt_s (lt_s (lt_s (lt_s (lt_s (lt_s (lt_s (lt_s (lt_s (lt_0) (G_6 (i := 198) rfl rfl)) (G_6 (i := 200) rfl rfl)) (G_6 (i := 202) rfl rfl)) (G_6 (i := 204) rfl rfl)) (G_6 (i := 206) rfl rfl)) (G_6 (i := 208) rfl rfl)) (G_6 (i := 210) rfl rfl)) (G_6 (i := 212) rfl rfl)) (G_6 (i := 214) rfl rfl)) (G_6 (i := 216) rfl rfl)) (G_6 (i := 218) rfl rfl)) (G_6 (i := 220) rfl rfl)) (G_6 (i := 222) rfl rfl)) (G_6 (i := 224) rfl rfl)) (G_6 (i := 226) rfl rfl)) (G_6 (i := 228) rfl rfl)) (G_6 (i := 230) rfl rfl)) (G_6 (i := 232) rfl rfl)) (G_6 (i := 234) rfl rfl)) (G_6 (i := 236) rfl rfl)) (G_6 (i := 238) rfl rfl)) (G_7 (i := 0) rfl rfl)) (G_7 (i := 2) rfl rfl)) (G_7 (i := 4) rfl rfl)) (G_7 (i := 6) rfl rfl)) (G_7 (i := 8) rfl rfl)) (G_7 (i := 10) rfl rfl)) (G_7 (i := 12) rfl rfl)) (G_7 (i := 14) rfl rfl)) (G_7 (i := 16) rfl rfl)) (G_7 (i := 18) rfl rfl)) (G_7 (i := 20) rfl rfl)) (G_7 (i := 22) rfl rfl)) (G_7 (i := 24) rfl rfl)) (G_7 (i := 26) rfl rfl)) (G_7 (i := 28) rfl rfl)) (G_7 (i := 30) rfl rfl)) (G_7 (i := 32) rfl rfl)) (G_7 (i := 34) rfl rfl)) (G_7 (i := 36) rfl rfl)) (G_7 (i := 38) rfl rfl)) (G_7 (i := 40) rfl rfl)) (G_7 (i := 42) rfl rfl)) (G_7 (i := 44) rfl rfl)) (G_7 (i := 46) rfl rfl)) (G_7 (i := 48) rfl rfl)) (G_7 (i := 50) rfl rfl)) (G_7 (i := 52) rfl rfl)) (G_7 (i := 54) rfl rfl)) (G_7 (i := 56) rfl rfl)) (G_7 (i := 58) rfl rfl)) (G_7 (i := 60) rfl rfl)) (G_7 (i := 62) rfl rfl)) (G_7 (i := 64) rfl rfl)) (G_7 (i := 66) rfl rfl)) (G_7 (i := 68) rfl rfl)) (G_7 (i := 70) rfl rfl)) (G_7 (i := 72) rfl rfl)) (G_7 (i := 74) rfl rfl)) (G_7 (i := 76) rfl rfl)) (G_7 (i := 78) rfl rfl)) (G_7 (i := 80) rfl rfl)) (G_7 (i := 82) rfl rfl) : ∀ k, k < 63 → u_lay RX12 TX12 k ∈ G_) k (List.mem_range.mp hk))
section FIELDS
variable {l : Launch} {E : En_} {own : String} {cc : ByteArray} {nL : Nat} {ret : Option FieldType} {c0 : Cond} {R : Room} {pc index : Nat}
theorem g_0_0 (hd : decode cc pc = .ok (.getfield index, 3)) (hw : Cond.fieldLink own index (cT_ 0 0).1 (cT_ 0 0).2.1 (cT_ 0 0).2.2.1 ∈ G_) : Snd_ l E own cc nL ret (c0 :: G_) R pc (o_gF E.2.2.2.1 0 0) := s_gF hd (by decide) (by decide) rfl rfl iw0 (G_w hw)
theorem g_0_1 (hd : decode cc pc = .ok (.getfield index, 3)) (hw : Cond.fieldLink own index (cT_ 0 1).1 (cT_ 0 1).2.1 (cT_ 0 1).2.2.1 ∈ G_) : Snd_ l E own cc nL ret (c0 :: G_) R pc (o_gF E.2.2.2.1 0 1) := s_gF hd (by decide) (by decide) rfl rfl iw0 (G_w hw)
theorem g_0_2 (hd : decode cc pc = .ok (.getfield index, 3)) (hw : Cond.fieldLink own index (cT_ 0 2).1 (cT_ 0 2).2.1 (cT_ 0 2).2.2.1 ∈ G_) : Snd_ l E own cc nL ret (c0 :: G_) R pc (o_gF E.2.2.2.1 0 2) := s_gF hd (by decide) (by decide) rfl rfl iw0 (G_w hw)
theorem g_0_3 (hd : decode cc pc = .ok (.getfield index, 3)) (hw : Cond.fieldLink own index (cT_ 0 3).1 (cT_ 0 3).2.1 (cT_ 0 3).2.2.1 ∈ G_) : Snd_ l E own cc nL ret (c0 :: G_) R pc (o_gF E.2.2.2.1 0 3) := s_gF hd (by decide) (by decide) rfl rfl iw0 (G_w hw)
theorem g_0_4 (hd : decode cc pc = .ok (.getfield index, 3)) (hw : Cond.fieldLink own index (cT_ 0 4).1 (cT_ 0 4).2.1 (cT_ 0 4).2.2.1 ∈ G_) : Snd_ l E own cc nL ret (c0 :: G_) R pc (o_gF E.2.2.2.1 0 4) := s_gF hd (by decide) (by decide) rfl rfl iw0 (G_w hw)
theorem g_0_5 (hd : decode cc pc = .ok (.getfield index, 3)) (hw : Cond.fieldLink own index (cT_ 0 5).1 (cT_ 0 5).2.1 (cT_ 0 5).2.2.1 ∈ G_) : Snd_ l E own cc nL ret (c0 :: G_) R pc (o_gF E.2.2.2.1 0 5) := s_gF hd (by decide) (by decide) rfl rfl iw0 (G_w hw)
theorem g_0_6 (hd : decode cc pc = .ok (.getfield index, 3)) (hw : Cond.fieldLink own index (cT_ 0 6).1 (cT_ 0 6).2.1 (cT_ 0 6).2.2.1 ∈ G_) : Snd_ l E own cc nL ret (c0 :: G_) R pc (o_gF E.2.2.2.1 0 6) := s_gF hd (by decide) (by decide) rfl rfl iw0 (G_w hw)
theorem g_0_7 (hd : decode cc pc = .ok (.getfield index, 3)) (hw : Cond.fieldLink own index (cT_ 0 7).1 (cT_ 0 7).2.1 (cT_ 0 7).2.2.1 ∈ G_) : Snd_ l E own cc nL ret (c0 :: G_) R pc (o_gF E.2.2.2.1 0 7) := s_gF hd (by decide) (by decide) rfl rfl iw0 (G_w hw)
theorem g_0_8 (hd : decode cc pc = .ok (.getfield index, 3)) (hw : Cond.fieldLink own index (cT_ 0 8).1 (cT_ 0 8).2.1 (cT_ 0 8).2.2.1 ∈ G_) : Snd_ l E own cc nL ret (c0 :: G_) R pc (o_gF E.2.2.2.1 0 8) := s_gF hd (by decide) (by decide) rfl rfl iw0 (G_w hw)
theorem g_0_9 (hd : decode cc pc = .ok (.getfield index, 3)) (hw : Cond.fieldLink own index (cT_ 0 9).1 (cT_ 0 9).2.1 (cT_ 0 9).2.2.1 ∈ G_) : Snd_ l E own cc nL ret (c0 :: G_) R pc (o_gF E.2.2.2.1 0 9) := s_gF hd (by decide) (by decide) rfl rfl iw0 (G_w hw)
theorem g_0_10 (hd : decode cc pc = .ok (.getfield index, 3)) (hw : Cond.fieldLink own index (cT_ 0 10).1 (cT_ 0 10).2.1 (cT_ 0 10).2.2.1 ∈ G_) : Snd_ l E own cc nL ret (c0 :: G_) R pc (o_gF E.2.2.2.1 0 10) := s_gF hd (by decide) (by decide) rfl rfl iw0 (G_w hw)
theorem g_0_11 (hd : decode cc pc = .ok (.getfield index, 3)) (hw : Cond.fieldLink own index (cT_ 0 11).1 (cT_ 0 11).2.1 (cT_ 0 11).2.2.1 ∈ G_) : Snd_ l E own cc nL ret (c0 :: G_) R pc (o_gI E.2.2.2.1 0 11) := s_gI hd (by decide) (by decide) rfl iw0 (G_w hw)
theorem p_0_11 (hd : decode cc pc = .ok (.putfield index, 3)) (hw : Cond.fieldLink own index (cT_ 0 11).1 (cT_ 0 11).2.1 (cT_ 0 11).2.2.1 ∈ G_) : Snd_ l E own cc nL ret (c0 :: G_) R pc (o_pI E.2.2.2.1 0 11) := s_pI hd (by decide) (by decide) rfl rfl iw0 (G_w hw)
theorem g_0_12 (hd : decode cc pc = .ok (.getfield index, 3)) (hw : Cond.fieldLink own index (cT_ 0 12).1 (cT_ 0 12).2.1 (cT_ 0 12).2.2.1 ∈ G_) : Snd_ l E own cc nL ret (c0 :: G_) R pc (o_gI E.2.2.2.1 0 12) := s_gI hd (by decide) (by decide) rfl iw0 (G_w hw)
theorem p_0_12 (hd : decode cc pc = .ok (.putfield index, 3)) (hw : Cond.fieldLink own index (cT_ 0 12).1 (cT_ 0 12).2.1 (cT_ 0 12).2.2.1 ∈ G_) : Snd_ l E own cc nL ret (c0 :: G_) R pc (o_pI E.2.2.2.1 0 12) := s_pI hd (by decide) (by decide) rfl rfl iw0 (G_w hw)
theorem g_0_13 (hd : decode cc pc = .ok (.getfield index, 3)) (hw : Cond.fieldLink own index (cT_ 0 13).1 (cT_ 0 13).2.1 (cT_ 0 13).2.2.1 ∈ G_) : Snd_ l E own cc nL ret (c0 :: G_) R pc (o_gI E.2.2.2.1 0 13) := s_gI hd (by decide) (by decide) rfl iw0 (G_w hw)
theorem p_0_13 (hd : decode cc pc = .ok (.putfield index, 3)) (hw : Cond.fieldLink own index (cT_ 0 13).1 (cT_ 0 13).2.1 (cT_ 0 13).2.2.1 ∈ G_) : Snd_ l E own cc nL ret (c0 :: G_) R pc (o_pI E.2.2.2.1 0 13) := s_pI hd (by decide) (by decide) rfl rfl iw0 (G_w hw)
theorem g_0_14 (hd : decode cc pc = .ok (.getfield index, 3)) (hw : Cond.fieldLink own index (cT_ 0 14).1 (cT_ 0 14).2.1 (cT_ 0 14).2.2.1 ∈ G_) : Snd_ l E own cc nL ret (c0 :: G_) R pc (o_gI E.2.2.2.1 0 14) := s_gI hd (by decide) (by decide) rfl iw0 (G_w hw)
theorem p_0_14 (hd : decode cc pc = .ok (.putfield index, 3)) (hw : Cond.fieldLink own index (cT_ 0 14).1 (cT_ 0 14).2.1 (cT_ 0 14).2.2.1 ∈ G_) : Snd_ l E own cc nL ret (c0 :: G_) R pc (o_pI E.2.2.2.1 0 14) := s_pI hd (by decide) (by decide) rfl rfl iw0 (G_w hw)
theorem g_0_15 (hd : decode cc pc = .ok (.getfield index, 3)) (hw : Cond.fieldLink own index (cT_ 0 15).1 (cT_ 0 15).2.1 (cT_ 0 15).2.2.1 ∈ G_) : Snd_ l E own cc nL ret (c0 :: G_) R pc (o_gI E.2.2.2.1 0 15) := s_gI hd (by decide) (by decide) rfl iw0 (G_w hw)
theorem p_0_15 (hd : decode cc pc = .ok (.putfield index, 3)) (hw : Cond.fieldLink own index (cT_ 0 15).1 (cT_ 0 15).2.1 (cT_ 0 15).2.2.1 ∈ G_) : Snd_ l E own cc nL ret (c0 :: G_) R pc (o_pI E.2.2.2.1 0 15) := s_pI hd (by decide) (by decide) rfl rfl iw0 (G_w hw)
theorem g_0_16 (hd : decode cc pc = .ok (.getfield index, 3)) (hw : Cond.fieldLink own index (cT_ 0 16).1 (cT_ 0 16).2.1 (cT_ 0 16).2.2.1 ∈ G_) : Snd_ l E own cc nL ret (c0 :: G_) R pc (o_gI E.2.2.2.1 0 16) := s_gI hd (by decide) (by decide) rfl iw0 (G_w hw)
theorem p_0_16 (hd : decode cc pc = .ok (.putfield index, 3)) (hw : Cond.fieldLink own index (cT_ 0 16).1 (cT_ 0 16).2.1 (cT_ 0 16).2.2.1 ∈ G_) : Snd_ l E own cc nL ret (c0 :: G_) R pc (o_pZ E.2.2.2.1 0 16) := s_pZ hd (by decide) (by decide) rfl rfl iw0 (G_w hw)
theorem g_0_17 (hd : decode cc pc = .ok (.getfield index, 3)) (hw : Cond.fieldLink own index (cT_ 0 17).1 (cT_ 0 17).2.1 (cT_ 0 17).2.2.1 ∈ G_) : Snd_ l E own cc nL ret (c0 :: G_) R pc (o_gI E.2.2.2.1 0 17) := s_gI hd (by decide) (by decide) rfl iw0 (G_w hw)
theorem p_0_17 (hd : decode cc pc = .ok (.putfield index, 3)) (hw : Cond.fieldLink own index (cT_ 0 17).1 (cT_ 0 17).2.1 (cT_ 0 17).2.2.1 ∈ G_) : Snd_ l E own cc nL ret (c0 :: G_) R pc (o_pZ E.2.2.2.1 0 17) := s_pZ hd (by decide) (by decide) rfl rfl iw0 (G_w hw)
theorem g_1_0 (hd : decode cc pc = .ok (.getfield index, 3)) (hw : Cond.fieldLink own index (cT_ 1 0).1 (cT_ 1 0).2.1 (cT_ 1 0).2.2.1 ∈ G_) : Snd_ l E own cc nL ret (c0 :: G_) R pc (o_gI E.2.2.2.1 1 0) := s_gI hd (by decide) (by decide) rfl iw1 (G_w hw)
theorem p_1_0 (hd : decode cc pc = .ok (.putfield index, 3)) (hw : Cond.fieldLink own index (cT_ 1 0).1 (cT_ 1 0).2.1 (cT_ 1 0).2.2.1 ∈ G_) : Snd_ l E own cc nL ret (c0 :: G_) R pc (o_pI E.2.2.2.1 1 0) := s_pI hd (by decide) (by decide) rfl rfl iw1 (G_w hw)
theorem g_1_1 (hd : decode cc pc = .ok (.getfield index, 3)) (hw : Cond.fieldLink own index (cT_ 1 1).1 (cT_ 1 1).2.1 (cT_ 1 1).2.2.1 ∈ G_) : Snd_ l E own cc nL ret (c0 :: G_) R pc (o_gI E.2.2.2.1 1 1) := s_gI hd (by decide) (by decide) rfl iw1 (G_w hw)
theorem p_1_1 (hd : decode cc pc = .ok (.putfield index, 3)) (hw : Cond.fieldLink own index (cT_ 1 1).1 (cT_ 1 1).2.1 (cT_ 1 1).2.2.1 ∈ G_) : Snd_ l E own cc nL ret (c0 :: G_) R pc (o_pI E.2.2.2.1 1 1) := s_pI hd (by decide) (by decide) rfl rfl iw1 (G_w hw)
theorem g_1_2 (hd : decode cc pc = .ok (.getfield index, 3)) (hw : Cond.fieldLink own index (cT_ 1 2).1 (cT_ 1 2).2.1 (cT_ 1 2).2.2.1 ∈ G_) : Snd_ l E own cc nL ret (c0 :: G_) R pc (o_gI E.2.2.2.1 1 2) := s_gI hd (by decide) (by decide) rfl iw1 (G_w hw)
theorem p_1_2 (hd : decode cc pc = .ok (.putfield index, 3)) (hw : Cond.fieldLink own index (cT_ 1 2).1 (cT_ 1 2).2.1 (cT_ 1 2).2.2.1 ∈ G_) : Snd_ l E own cc nL ret (c0 :: G_) R pc (o_pI E.2.2.2.1 1 2) := s_pI hd (by decide) (by decide) rfl rfl iw1 (G_w hw)
theorem g_1_3 (hd : decode cc pc = .ok (.getfield index, 3)) (hw : Cond.fieldLink own index (cT_ 1 3).1 (cT_ 1 3).2.1 (cT_ 1 3).2.2.1 ∈ G_) : Snd_ l E own cc nL ret (c0 :: G_) R pc (o_gF E.2.2.2.1 1 3) := s_gF hd (by decide) (by decide) rfl rfl iw1 (G_w hw)
theorem g_1_4 (hd : decode cc pc = .ok (.getfield index, 3)) (hw : Cond.fieldLink own index (cT_ 1 4).1 (cT_ 1 4).2.1 (cT_ 1 4).2.2.1 ∈ G_) : Snd_ l E own cc nL ret (c0 :: G_) R pc (o_gF E.2.2.2.1 1 4) := s_gF hd (by decide) (by decide) rfl rfl iw1 (G_w hw)
theorem g_1_5 (hd : decode cc pc = .ok (.getfield index, 3)) (hw : Cond.fieldLink own index (cT_ 1 5).1 (cT_ 1 5).2.1 (cT_ 1 5).2.2.1 ∈ G_) : Snd_ l E own cc nL ret (c0 :: G_) R pc (o_gF E.2.2.2.1 1 5) := s_gF hd (by decide) (by decide) rfl rfl iw1 (G_w hw)
theorem g_1_6 (hd : decode cc pc = .ok (.getfield index, 3)) (hw : Cond.fieldLink own index (cT_ 1 6).1 (cT_ 1 6).2.1 (cT_ 1 6).2.2.1 ∈ G_) : Snd_ l E own cc nL ret (c0 :: G_) R pc (o_gF E.2.2.2.1 1 6) := s_gF hd (by decide) (by decide) rfl rfl iw1 (G_w hw)
theorem g_1_7 (hd : decode cc pc = .ok (.getfield index, 3)) (hw : Cond.fieldLink own index (cT_ 1 7).1 (cT_ 1 7).2.1 (cT_ 1 7).2.2.1 ∈ G_) : Snd_ l E own cc nL ret (c0 :: G_) R pc (o_gF E.2.2.2.1 1 7) := s_gF hd (by decide) (by decide) rfl rfl iw1 (G_w hw)
theorem g_1_8 (hd : decode cc pc = .ok (.getfield index, 3)) (hw : Cond.fieldLink own index (cT_ 1 8).1 (cT_ 1 8).2.1 (cT_ 1 8).2.2.1 ∈ G_) : Snd_ l E own cc nL ret (c0 :: G_) R pc (o_gR E.2.2.2.1 1 8) := s_gR hd (by decide) (by decide) rfl rfl iw1 (G_w hw)
theorem p_1_8 (hd : decode cc pc = .ok (.putfield index, 3)) (hw : Cond.fieldLink own index (cT_ 1 8).1 (cT_ 1 8).2.1 (cT_ 1 8).2.2.1 ∈ G_) : Snd_ l E own cc nL ret (c0 :: G_) R pc (o_pR E.2.2.2.1 1 8) := s_pR hd (by decide) (by decide) rfl rfl iw1 (G_w hw)
theorem g_1_9 (hd : decode cc pc = .ok (.getfield index, 3)) (hw : Cond.fieldLink own index (cT_ 1 9).1 (cT_ 1 9).2.1 (cT_ 1 9).2.2.1 ∈ G_) : Snd_ l E own cc nL ret (c0 :: G_) R pc (o_gI E.2.2.2.1 1 9) := s_gI hd (by decide) (by decide) rfl iw1 (G_w hw)
theorem p_1_9 (hd : decode cc pc = .ok (.putfield index, 3)) (hw : Cond.fieldLink own index (cT_ 1 9).1 (cT_ 1 9).2.1 (cT_ 1 9).2.2.1 ∈ G_) : Snd_ l E own cc nL ret (c0 :: G_) R pc (o_pI E.2.2.2.1 1 9) := s_pI hd (by decide) (by decide) rfl rfl iw1 (G_w hw)
theorem g_2_0 (hd : decode cc pc = .ok (.getfield index, 3)) (hw : Cond.fieldLink own index (cT_ 2 0).1 (cT_ 2 0).2.1 (cT_ 2 0).2.2.1 ∈ G_) : Snd_ l E own cc nL ret (c0 :: G_) R pc (o_gF E.2.2.2.1 2 0) := s_gF hd (by decide) (by decide) rfl rfl iw2 (G_w hw)
theorem g_2_1 (hd : decode cc pc = .ok (.getfield index, 3)) (hw : Cond.fieldLink own index (cT_ 2 1).1 (cT_ 2 1).2.1 (cT_ 2 1).2.2.1 ∈ G_) : Snd_ l E own cc nL ret (c0 :: G_) R pc (o_gI E.2.2.2.1 2 1) := s_gI hd (by decide) (by decide) rfl iw2 (G_w hw)
theorem p_2_1 (hd : decode cc pc = .ok (.putfield index, 3)) (hw : Cond.fieldLink own index (cT_ 2 1).1 (cT_ 2 1).2.1 (cT_ 2 1).2.2.1 ∈ G_) : Snd_ l E own cc nL ret (c0 :: G_) R pc (o_pI E.2.2.2.1 2 1) := s_pI hd (by decide) (by decide) rfl rfl iw2 (G_w hw)
theorem g_2_2 (hd : decode cc pc = .ok (.getfield index, 3)) (hw : Cond.fieldLink own index (cT_ 2 2).1 (cT_ 2 2).2.1 (cT_ 2 2).2.2.1 ∈ G_) : Snd_ l E own cc nL ret (c0 :: G_) R pc (o_gI E.2.2.2.1 2 2) := s_gI hd (by decide) (by decide) rfl iw2 (G_w hw)
theorem p_2_2 (hd : decode cc pc = .ok (.putfield index, 3)) (hw : Cond.fieldLink own index (cT_ 2 2).1 (cT_ 2 2).2.1 (cT_ 2 2).2.2.1 ∈ G_) : Snd_ l E own cc nL ret (c0 :: G_) R pc (o_pI E.2.2.2.1 2 2) := s_pI hd (by decide) (by decide) rfl rfl iw2 (G_w hw)
theorem g_2_3 (hd : decode cc pc = .ok (.getfield index, 3)) (hw : Cond.fieldLink own index (cT_ 2 3).1 (cT_ 2 3).2.1 (cT_ 2 3).2.2.1 ∈ G_) : Snd_ l E own cc nL ret (c0 :: G_) R pc (o_gF E.2.2.2.1 2 3) := s_gF hd (by decide) (by decide) rfl rfl iw2 (G_w hw)
theorem g_2_4 (hd : decode cc pc = .ok (.getfield index, 3)) (hw : Cond.fieldLink own index (cT_ 2 4).1 (cT_ 2 4).2.1 (cT_ 2 4).2.2.1 ∈ G_) : Snd_ l E own cc nL ret (c0 :: G_) R pc (o_gF E.2.2.2.1 2 4) := s_gF hd (by decide) (by decide) rfl rfl iw2 (G_w hw)
theorem g_3_0 (hd : decode cc pc = .ok (.getfield index, 3)) (hw : Cond.fieldLink own index (cT_ 3 0).1 (cT_ 3 0).2.1 (cT_ 3 0).2.2.1 ∈ G_) : Snd_ l E own cc nL ret (c0 :: G_) R pc (o_gF E.2.2.2.1 3 0) := s_gF hd (by decide) (by decide) rfl rfl iw3 (G_w hw)
theorem g_3_1 (hd : decode cc pc = .ok (.getfield index, 3)) (hw : Cond.fieldLink own index (cT_ 3 1).1 (cT_ 3 1).2.1 (cT_ 3 1).2.2.1 ∈ G_) : Snd_ l E own cc nL ret (c0 :: G_) R pc (o_gF E.2.2.2.1 3 1) := s_gF hd (by decide) (by decide) rfl rfl iw3 (G_w hw)
theorem g_3_2 (hd : decode cc pc = .ok (.getfield index, 3)) (hw : Cond.fieldLink own index (cT_ 3 2).1 (cT_ 3 2).2.1 (cT_ 3 2).2.2.1 ∈ G_) : Snd_ l E own cc nL ret (c0 :: G_) R pc (o_gI E.2.2.2.1 3 2) := s_gI hd (by decide) (by decide) rfl iw3 (G_w hw)
theorem p_3_2 (hd : decode cc pc = .ok (.putfield index, 3)) (hw : Cond.fieldLink own index (cT_ 3 2).1 (cT_ 3 2).2.1 (cT_ 3 2).2.2.1 ∈ G_) : Snd_ l E own cc nL ret (c0 :: G_) R pc (o_pI E.2.2.2.1 3 2) := s_pI hd (by decide) (by decide) rfl rfl iw3 (G_w hw)
theorem g_3_3 (hd : decode cc pc = .ok (.getfield index, 3)) (hw : Cond.fieldLink own index (cT_ 3 3).1 (cT_ 3 3).2.1 (cT_ 3 3).2.2.1 ∈ G_) : Snd_ l E own cc nL ret (c0 :: G_) R pc (o_gI E.2.2.2.1 3 3) := s_gI hd (by decide) (by decide) rfl iw3 (G_w hw)
theorem p_3_3 (hd : decode cc pc = .ok (.putfield index, 3)) (hw : Cond.fieldLink own index (cT_ 3 3).1 (cT_ 3 3).2.1 (cT_ 3 3).2.2.1 ∈ G_) : Snd_ l E own cc nL ret (c0 :: G_) R pc (o_pI E.2.2.2.1 3 3) := s_pI hd (by decide) (by decide) rfl rfl iw3 (G_w hw)
theorem g_3_4 (hd : decode cc pc = .ok (.getfield index, 3)) (hw : Cond.fieldLink own index (cT_ 3 4).1 (cT_ 3 4).2.1 (cT_ 3 4).2.2.1 ∈ G_) : Snd_ l E own cc nL ret (c0 :: G_) R pc (o_gI E.2.2.2.1 3 4) := s_gI hd (by decide) (by decide) rfl iw3 (G_w hw)
theorem p_3_4 (hd : decode cc pc = .ok (.putfield index, 3)) (hw : Cond.fieldLink own index (cT_ 3 4).1 (cT_ 3 4).2.1 (cT_ 3 4).2.2.1 ∈ G_) : Snd_ l E own cc nL ret (c0 :: G_) R pc (o_pI E.2.2.2.1 3 4) := s_pI hd (by decide) (by decide) rfl rfl iw3 (G_w hw)
theorem g_3_5 (hd : decode cc pc = .ok (.getfield index, 3)) (hw : Cond.fieldLink own index (cT_ 3 5).1 (cT_ 3 5).2.1 (cT_ 3 5).2.2.1 ∈ G_) : Snd_ l E own cc nL ret (c0 :: G_) R pc (o_gI E.2.2.2.1 3 5) := s_gI hd (by decide) (by decide) rfl iw3 (G_w hw)
theorem p_3_5 (hd : decode cc pc = .ok (.putfield index, 3)) (hw : Cond.fieldLink own index (cT_ 3 5).1 (cT_ 3 5).2.1 (cT_ 3 5).2.2.1 ∈ G_) : Snd_ l E own cc nL ret (c0 :: G_) R pc (o_pI E.2.2.2.1 3 5) := s_pI hd (by decide) (by decide) rfl rfl iw3 (G_w hw)
theorem g_3_6 (hd : decode cc pc = .ok (.getfield index, 3)) (hw : Cond.fieldLink own index (cT_ 3 6).1 (cT_ 3 6).2.1 (cT_ 3 6).2.2.1 ∈ G_) : Snd_ l E own cc nL ret (c0 :: G_) R pc (o_gI E.2.2.2.1 3 6) := s_gI hd (by decide) (by decide) rfl iw3 (G_w hw)
theorem p_3_6 (hd : decode cc pc = .ok (.putfield index, 3)) (hw : Cond.fieldLink own index (cT_ 3 6).1 (cT_ 3 6).2.1 (cT_ 3 6).2.2.1 ∈ G_) : Snd_ l E own cc nL ret (c0 :: G_) R pc (o_pI E.2.2.2.1 3 6) := s_pI hd (by decide) (by decide) rfl rfl iw3 (G_w hw)
theorem g_4_0 (hd : decode cc pc = .ok (.getfield index, 3)) (hw : Cond.fieldLink own index (cT_ 4 0).1 (cT_ 4 0).2.1 (cT_ 4 0).2.2.1 ∈ G_) : Snd_ l E own cc nL ret (c0 :: G_) R pc (o_gF E.2.2.2.1 4 0) := s_gF hd (by decide) (by decide) rfl rfl iw4 (G_w hw)
theorem g_4_1 (hd : decode cc pc = .ok (.getfield index, 3)) (hw : Cond.fieldLink own index (cT_ 4 1).1 (cT_ 4 1).2.1 (cT_ 4 1).2.2.1 ∈ G_) : Snd_ l E own cc nL ret (c0 :: G_) R pc (o_gF E.2.2.2.1 4 1) := s_gF hd (by decide) (by decide) rfl rfl iw4 (G_w hw)
theorem g_4_2 (hd : decode cc pc = .ok (.getfield index, 3)) (hw : Cond.fieldLink own index (cT_ 4 2).1 (cT_ 4 2).2.1 (cT_ 4 2).2.2.1 ∈ G_) : Snd_ l E own cc nL ret (c0 :: G_) R pc (o_gR E.2.2.2.1 4 2) := s_gR hd (by decide) (by decide) rfl rfl iw4 (G_w hw)
theorem p_4_2 (hd : decode cc pc = .ok (.putfield index, 3)) (hw : Cond.fieldLink own index (cT_ 4 2).1 (cT_ 4 2).2.1 (cT_ 4 2).2.2.1 ∈ G_) : Snd_ l E own cc nL ret (c0 :: G_) R pc (o_pR E.2.2.2.1 4 2) := s_pR hd (by decide) (by decide) rfl rfl iw4 (G_w hw)
theorem g_4_3 (hd : decode cc pc = .ok (.getfield index, 3)) (hw : Cond.fieldLink own index (cT_ 4 3).1 (cT_ 4 3).2.1 (cT_ 4 3).2.2.1 ∈ G_) : Snd_ l E own cc nL ret (c0 :: G_) R pc (o_gR E.2.2.2.1 4 3) := s_gR hd (by decide) (by decide) rfl rfl iw4 (G_w hw)
theorem p_4_3 (hd : decode cc pc = .ok (.putfield index, 3)) (hw : Cond.fieldLink own index (cT_ 4 3).1 (cT_ 4 3).2.1 (cT_ 4 3).2.2.1 ∈ G_) : Snd_ l E own cc nL ret (c0 :: G_) R pc (o_pR E.2.2.2.1 4 3) := s_pR hd (by decide) (by decide) rfl rfl iw4 (G_w hw)
theorem g_4_4 (hd : decode cc pc = .ok (.getfield index, 3)) (hw : Cond.fieldLink own index (cT_ 4 4).1 (cT_ 4 4).2.1 (cT_ 4 4).2.2.1 ∈ G_) : Snd_ l E own cc nL ret (c0 :: G_) R pc (o_gI E.2.2.2.1 4 4) := s_gI hd (by decide) (by decide) rfl iw4 (G_w hw)
theorem p_4_4 (hd : decode cc pc = .ok (.putfield index, 3)) (hw : Cond.fieldLink own index (cT_ 4 4).1 (cT_ 4 4).2.1 (cT_ 4 4).2.2.1 ∈ G_) : Snd_ l E own cc nL ret (c0 :: G_) R pc (o_pI E.2.2.2.1 4 4) := s_pI hd (by decide) (by decide) rfl rfl iw4 (G_w hw)
theorem g_5_0 (hd : decode cc pc = .ok (.getfield index, 3)) (hw : Cond.fieldLink own index (cT_ 5 0).1 (cT_ 5 0).2.1 (cT_ 5 0).2.2.1 ∈ G_) : Snd_ l E own cc nL ret (c0 :: G_) R pc (o_gF E.2.2.2.1 5 0) := s_gF hd (by decide) (by decide) rfl rfl iw5 (G_w hw)
theorem g_5_1 (hd : decode cc pc = .ok (.getfield index, 3)) (hw : Cond.fieldLink own index (cT_ 5 1).1 (cT_ 5 1).2.1 (cT_ 5 1).2.2.1 ∈ G_) : Snd_ l E own cc nL ret (c0 :: G_) R pc (o_gF E.2.2.2.1 5 1) := s_gF hd (by decide) (by decide) rfl rfl iw5 (G_w hw)
theorem g_5_2 (hd : decode cc pc = .ok (.getfield index, 3)) (hw : Cond.fieldLink own index (cT_ 5 2).1 (cT_ 5 2).2.1 (cT_ 5 2).2.2.1 ∈ G_) : Snd_ l E own cc nL ret (c0 :: G_) R pc (o_gF E.2.2.2.1 5 2) := s_gF hd (by decide) (by decide) rfl rfl iw5 (G_w hw)
theorem g_5_3 (hd : decode cc pc = .ok (.getfield index, 3)) (hw : Cond.fieldLink own index (cT_ 5 3).1 (cT_ 5 3).2.1 (cT_ 5 3).2.2.1 ∈ G_) : Snd_ l E own cc nL ret (c0 :: G_) R pc (o_gF E.2.2.2.1 5 3) := s_gF hd (by decide) (by decide) rfl rfl iw5 (G_w hw)
theorem g_5_4 (hd : decode cc pc = .ok (.getfield index, 3)) (hw : Cond.fieldLink own index (cT_ 5 4).1 (cT_ 5 4).2.1 (cT_ 5 4).2.2.1 ∈ G_) : Snd_ l E own cc nL ret (c0 :: G_) R pc (o_gI E.2.2.2.1 5 4) := s_gI hd (by decide) (by decide) rfl iw5 (G_w hw)
theorem p_5_4 (hd : decode cc pc = .ok (.putfield index, 3)) (hw : Cond.fieldLink own index (cT_ 5 4).1 (cT_ 5 4).2.1 (cT_ 5 4).2.2.1 ∈ G_) : Snd_ l E own cc nL ret (c0 :: G_) R pc (o_pI E.2.2.2.1 5 4) := s_pI hd (by decide) (by decide) rfl rfl iw5 (G_w hw)
theorem g_5_5 (hd : decode cc pc = .ok (.getfield index, 3)) (hw : Cond.fieldLink own index (cT_ 5 5).1 (cT_ 5 5).2.1 (cT_ 5 5).2.2.1 ∈ G_) : Snd_ l E own cc nL ret (c0 :: G_) R pc (o_gI E.2.2.2.1 5 5) := s_gI hd (by decide) (by decide) rfl iw5 (G_w hw)
theorem p_5_5 (hd : decode cc pc = .ok (.putfield index, 3)) (hw : Cond.fieldLink own index (cT_ 5 5).1 (cT_ 5 5).2.1 (cT_ 5 5).2.2.1 ∈ G_) : Snd_ l E own cc nL ret (c0 :: G_) R pc (o_pI E.2.2.2.1 5 5) := s_pI hd (by decide) (by decide) rfl rfl iw5 (G_w hw)
theorem g_5_6 (hd : decode cc pc = .ok (.getfield index, 3)) (hw : Cond.fieldLink own index (cT_ 5 6).1 (cT_ 5 6).2.1 (cT_ 5 6).2.2.1 ∈ G_) : Snd_ l E own cc nL ret (c0 :: G_) R pc (o_gI E.2.2.2.1 5 6) := s_gI hd (by decide) (by decide) rfl iw5 (G_w hw)
theorem p_5_6 (hd : decode cc pc = .ok (.putfield index, 3)) (hw : Cond.fieldLink own index (cT_ 5 6).1 (cT_ 5 6).2.1 (cT_ 5 6).2.2.1 ∈ G_) : Snd_ l E own cc nL ret (c0 :: G_) R pc (o_pI E.2.2.2.1 5 6) := s_pI hd (by decide) (by decide) rfl rfl iw5 (G_w hw)
theorem g_5_7 (hd : decode cc pc = .ok (.getfield index, 3)) (hw : Cond.fieldLink own index (cT_ 5 7).1 (cT_ 5 7).2.1 (cT_ 5 7).2.2.1 ∈ G_) : Snd_ l E own cc nL ret (c0 :: G_) R pc (o_gI E.2.2.2.1 5 7) := s_gI hd (by decide) (by decide) rfl iw5 (G_w hw)
theorem p_5_7 (hd : decode cc pc = .ok (.putfield index, 3)) (hw : Cond.fieldLink own index (cT_ 5 7).1 (cT_ 5 7).2.1 (cT_ 5 7).2.2.1 ∈ G_) : Snd_ l E own cc nL ret (c0 :: G_) R pc (o_pI E.2.2.2.1 5 7) := s_pI hd (by decide) (by decide) rfl rfl iw5 (G_w hw)
theorem g_5_8 (hd : decode cc pc = .ok (.getfield index, 3)) (hw : Cond.fieldLink own index (cT_ 5 8).1 (cT_ 5 8).2.1 (cT_ 5 8).2.2.1 ∈ G_) : Snd_ l E own cc nL ret (c0 :: G_) R pc (o_gI E.2.2.2.1 5 8) := s_gI hd (by decide) (by decide) rfl iw5 (G_w hw)
theorem p_5_8 (hd : decode cc pc = .ok (.putfield index, 3)) (hw : Cond.fieldLink own index (cT_ 5 8).1 (cT_ 5 8).2.1 (cT_ 5 8).2.2.1 ∈ G_) : Snd_ l E own cc nL ret (c0 :: G_) R pc (o_pI E.2.2.2.1 5 8) := s_pI hd (by decide) (by decide) rfl rfl iw5 (G_w hw)
theorem g_5_9 (hd : decode cc pc = .ok (.getfield index, 3)) (hw : Cond.fieldLink own index (cT_ 5 9).1 (cT_ 5 9).2.1 (cT_ 5 9).2.2.1 ∈ G_) : Snd_ l E own cc nL ret (c0 :: G_) R pc (o_gR E.2.2.2.1 5 9) := s_gR hd (by decide) (by decide) rfl rfl iw5 (G_w hw)
theorem p_5_9 (hd : decode cc pc = .ok (.putfield index, 3)) (hw : Cond.fieldLink own index (cT_ 5 9).1 (cT_ 5 9).2.1 (cT_ 5 9).2.2.1 ∈ G_) : Snd_ l E own cc nL ret (c0 :: G_) R pc (o_pR E.2.2.2.1 5 9) := s_pR hd (by decide) (by decide) rfl rfl iw5 (G_w hw)
theorem g_6_0 (hd : decode cc pc = .ok (.getfield index, 3)) (hw : Cond.fieldLink own index (cT_ 6 0).1 (cT_ 6 0).2.1 (cT_ 6 0).2.2.1 ∈ G_) : Snd_ l E own cc nL ret (c0 :: G_) R pc (o_gF E.2.2.2.1 6 0) := s_gF hd (by decide) (by decide) rfl rfl iw6 (G_w hw)
theorem g_6_1 (hd : decode cc pc = .ok (.getfield index, 3)) (hw : Cond.fieldLink own index (cT_ 6 1).1 (cT_ 6 1).2.1 (cT_ 6 1).2.2.1 ∈ G_) : Snd_ l E own cc nL ret (c0 :: G_) R pc (o_gF E.2.2.2.1 6 1) := s_gF hd (by decide) (by decide) rfl rfl iw6 (G_w hw)
theorem g_6_2 (hd : decode cc pc = .ok (.getfield index, 3)) (hw : Cond.fieldLink own index (cT_ 6 2).1 (cT_ 6 2).2.1 (cT_ 6 2).2.2.1 ∈ G_) : Snd_ l E own cc nL ret (c0 :: G_) R pc (o_gF E.2.2.2.1 6 2) := s_gF hd (by decide) (by decide) rfl rfl iw6 (G_w hw)
theorem g_6_3 (hd : decode cc pc = .ok (.getfield index, 3)) (hw : Cond.fieldLink own index (cT_ 6 3).1 (cT_ 6 3).2.1 (cT_ 6 3).2.2.1 ∈ G_) : Snd_ l E own cc nL ret (c0 :: G_) R pc (o_gF E.2.2.2.1 6 3) := s_gF hd (by decide) (by decide) rfl rfl iw6 (G_w hw)
theorem g_6_4 (hd : decode cc pc = .ok (.getfield index, 3)) (hw : Cond.fieldLink own index (cT_ 6 4).1 (cT_ 6 4).2.1 (cT_ 6 4).2.2.1 ∈ G_) : Snd_ l E own cc nL ret (c0 :: G_) R pc (o_gI E.2.2.2.1 6 4) := s_gI hd (by decide) (by decide) rfl iw6 (G_w hw)
theorem p_6_4 (hd : decode cc pc = .ok (.putfield index, 3)) (hw : Cond.fieldLink own index (cT_ 6 4).1 (cT_ 6 4).2.1 (cT_ 6 4).2.2.1 ∈ G_) : Snd_ l E own cc nL ret (c0 :: G_) R pc (o_pI E.2.2.2.1 6 4) := s_pI hd (by decide) (by decide) rfl rfl iw6 (G_w hw)
theorem g_7_0 (hd : decode cc pc = .ok (.getfield index, 3)) (hw : Cond.fieldLink own index (cT_ 7 0).1 (cT_ 7 0).2.1 (cT_ 7 0).2.2.1 ∈ G_) : Snd_ l E own cc nL ret (c0 :: G_) R pc (o_gF E.2.2.2.1 7 0) := s_gF hd (by decide) (by decide) rfl rfl iw7 (G_w hw)
theorem g_7_1 (hd : decode cc pc = .ok (.getfield index, 3)) (hw : Cond.fieldLink own index (cT_ 7 1).1 (cT_ 7 1).2.1 (cT_ 7 1).2.2.1 ∈ G_) : Snd_ l E own cc nL ret (c0 :: G_) R pc (o_gI E.2.2.2.1 7 1) := s_gI hd (by decide) (by decide) rfl iw7 (G_w hw)
theorem p_7_1 (hd : decode cc pc = .ok (.putfield index, 3)) (hw : Cond.fieldLink own index (cT_ 7 1).1 (cT_ 7 1).2.1 (cT_ 7 1).2.2.1 ∈ G_) : Snd_ l E own cc nL ret (c0 :: G_) R pc (o_pI E.2.2.2.1 7 1) := s_pI hd (by decide) (by decide) rfl rfl iw7 (G_w hw)
theorem g_7_2 (hd : decode cc pc = .ok (.getfield index, 3)) (hw : Cond.fieldLink own index (cT_ 7 2).1 (cT_ 7 2).2.1 (cT_ 7 2).2.2.1 ∈ G_) : Snd_ l E own cc nL ret (c0 :: G_) R pc (o_gF E.2.2.2.1 7 2) := s_gF hd (by decide) (by decide) rfl rfl iw7 (G_w hw)
theorem g_7_3 (hd : decode cc pc = .ok (.getfield index, 3)) (hw : Cond.fieldLink own index (cT_ 7 3).1 (cT_ 7 3).2.1 (cT_ 7 3).2.2.1 ∈ G_) : Snd_ l E own cc nL ret (c0 :: G_) R pc (o_gF E.2.2.2.1 7 3) := s_gF hd (by decide) (by decide) rfl rfl iw7 (G_w hw)
theorem g_7_4 (hd : decode cc pc = .ok (.getfield index, 3)) (hw : Cond.fieldLink own index (cT_ 7 4).1 (cT_ 7 4).2.1 (cT_ 7 4).2.2.1 ∈ G_) : Snd_ l E own cc nL ret (c0 :: G_) R pc (o_gR E.2.2.2.1 7 4) := s_gR hd (by decide) (by decide) rfl rfl iw7 (G_w hw)
theorem p_7_4 (hd : decode cc pc = .ok (.putfield index, 3)) (hw : Cond.fieldLink own index (cT_ 7 4).1 (cT_ 7 4).2.1 (cT_ 7 4).2.2.1 ∈ G_) : Snd_ l E own cc nL ret (c0 :: G_) R pc (o_pR E.2.2.2.1 7 4) := s_pR hd (by decide) (by decide) rfl rfl iw7 (G_w hw)
theorem g_7_5 (hd : decode cc pc = .ok (.getfield index, 3)) (hw : Cond.fieldLink own index (cT_ 7 5).1 (cT_ 7 5).2.1 (cT_ 7 5).2.2.1 ∈ G_) : Snd_ l E own cc nL ret (c0 :: G_) R pc (o_gI E.2.2.2.1 7 5) := s_gI hd (by decide) (by decide) rfl iw7 (G_w hw)
theorem p_7_5 (hd : decode cc pc = .ok (.putfield index, 3)) (hw : Cond.fieldLink own index (cT_ 7 5).1 (cT_ 7 5).2.1 (cT_ 7 5).2.2.1 ∈ G_) : Snd_ l E own cc nL ret (c0 :: G_) R pc (o_pI E.2.2.2.1 7 5) := s_pI hd (by decide) (by decide) rfl rfl iw7 (G_w hw)
theorem g_7_6 (hd : decode cc pc = .ok (.getfield index, 3)) (hw : Cond.fieldLink own index (cT_ 7 6).1 (cT_ 7 6).2.1 (cT_ 7 6).2.2.1 ∈ G_) : Snd_ l E own cc nL ret (c0 :: G_) R pc (o_gI E.2.2.2.1 7 6) := s_gI hd (by decide) (by decide) rfl iw7 (G_w hw)
theorem p_7_6 (hd : decode cc pc = .ok (.putfield index, 3)) (hw : Cond.fieldLink own index (cT_ 7 6).1 (cT_ 7 6).2.1 (cT_ 7 6).2.2.1 ∈ G_) : Snd_ l E own cc nL ret (c0 :: G_) R pc (o_pI E.2.2.2.1 7 6) := s_pI hd (by decide) (by decide) rfl rfl iw7 (G_w hw)
theorem g_8_0 (hd : decode cc pc = .ok (.getfield index, 3)) (hw : Cond.fieldLink own index (cT_ 8 0).1 (cT_ 8 0).2.1 (cT_ 8 0).2.2.1 ∈ G_) : Snd_ l E own cc nL ret (c0 :: G_) R pc (o_gF E.2.2.2.1 8 0) := s_gF hd (by decide) (by decide) rfl rfl iw8 (G_w hw)
theorem g_8_1 (hd : decode cc pc = .ok (.getfield index, 3)) (hw : Cond.fieldLink own index (cT_ 8 1).1 (cT_ 8 1).2.1 (cT_ 8 1).2.2.1 ∈ G_) : Snd_ l E own cc nL ret (c0 :: G_) R pc (o_gF E.2.2.2.1 8 1) := s_gF hd (by decide) (by decide) rfl rfl iw8 (G_w hw)
theorem g_8_2 (hd : decode cc pc = .ok (.getfield index, 3)) (hw : Cond.fieldLink own index (cT_ 8 2).1 (cT_ 8 2).2.1 (cT_ 8 2).2.2.1 ∈ G_) : Snd_ l E own cc nL ret (c0 :: G_) R pc (o_gI E.2.2.2.1 8 2) := s_gI hd (by decide) (by decide) rfl iw8 (G_w hw)
theorem p_8_2 (hd : decode cc pc = .ok (.putfield index, 3)) (hw : Cond.fieldLink own index (cT_ 8 2).1 (cT_ 8 2).2.1 (cT_ 8 2).2.2.1 ∈ G_) : Snd_ l E own cc nL ret (c0 :: G_) R pc (o_pI E.2.2.2.1 8 2) := s_pI hd (by decide) (by decide) rfl rfl iw8 (G_w hw)
theorem g_8_3 (hd : decode cc pc = .ok (.getfield index, 3)) (hw : Cond.fieldLink own index (cT_ 8 3).1 (cT_ 8 3).2.1 (cT_ 8 3).2.2.1 ∈ G_) : Snd_ l E own cc nL ret (c0 :: G_) R pc (o_gI E.2.2.2.1 8 3) := s_gI hd (by decide) (by decide) rfl iw8 (G_w hw)
theorem p_8_3 (hd : decode cc pc = .ok (.putfield index, 3)) (hw : Cond.fieldLink own index (cT_ 8 3).1 (cT_ 8 3).2.1 (cT_ 8 3).2.2.1 ∈ G_) : Snd_ l E own cc nL ret (c0 :: G_) R pc (o_pI E.2.2.2.1 8 3) := s_pI hd (by decide) (by decide) rfl rfl iw8 (G_w hw)
theorem g_8_4 (hd : decode cc pc = .ok (.getfield index, 3)) (hw : Cond.fieldLink own index (cT_ 8 4).1 (cT_ 8 4).2.1 (cT_ 8 4).2.2.1 ∈ G_) : Snd_ l E own cc nL ret (c0 :: G_) R pc (o_gI E.2.2.2.1 8 4) := s_gI hd (by decide) (by decide) rfl iw8 (G_w hw)
theorem p_8_4 (hd : decode cc pc = .ok (.putfield index, 3)) (hw : Cond.fieldLink own index (cT_ 8 4).1 (cT_ 8 4).2.1 (cT_ 8 4).2.2.1 ∈ G_) : Snd_ l E own cc nL ret (c0 :: G_) R pc (o_pI E.2.2.2.1 8 4) := s_pI hd (by decide) (by decide) rfl rfl iw8 (G_w hw)
theorem g_8_5 (hd : decode cc pc = .ok (.getfield index, 3)) (hw : Cond.fieldLink own index (cT_ 8 5).1 (cT_ 8 5).2.1 (cT_ 8 5).2.2.1 ∈ G_) : Snd_ l E own cc nL ret (c0 :: G_) R pc (o_gI E.2.2.2.1 8 5) := s_gI hd (by decide) (by decide) rfl iw8 (G_w hw)
theorem p_8_5 (hd : decode cc pc = .ok (.putfield index, 3)) (hw : Cond.fieldLink own index (cT_ 8 5).1 (cT_ 8 5).2.1 (cT_ 8 5).2.2.1 ∈ G_) : Snd_ l E own cc nL ret (c0 :: G_) R pc (o_pI E.2.2.2.1 8 5) := s_pI hd (by decide) (by decide) rfl rfl iw8 (G_w hw)
theorem g_8_6 (hd : decode cc pc = .ok (.getfield index, 3)) (hw : Cond.fieldLink own index (cT_ 8 6).1 (cT_ 8 6).2.1 (cT_ 8 6).2.2.1 ∈ G_) : Snd_ l E own cc nL ret (c0 :: G_) R pc (o_gI E.2.2.2.1 8 6) := s_gI hd (by decide) (by decide) rfl iw8 (G_w hw)
theorem p_8_6 (hd : decode cc pc = .ok (.putfield index, 3)) (hw : Cond.fieldLink own index (cT_ 8 6).1 (cT_ 8 6).2.1 (cT_ 8 6).2.2.1 ∈ G_) : Snd_ l E own cc nL ret (c0 :: G_) R pc (o_pI E.2.2.2.1 8 6) := s_pI hd (by decide) (by decide) rfl rfl iw8 (G_w hw)
theorem g_8_7 (hd : decode cc pc = .ok (.getfield index, 3)) (hw : Cond.fieldLink own index (cT_ 8 7).1 (cT_ 8 7).2.1 (cT_ 8 7).2.2.1 ∈ G_) : Snd_ l E own cc nL ret (c0 :: G_) R pc (o_gI E.2.2.2.1 8 7) := s_gI hd (by decide) (by decide) rfl iw8 (G_w hw)
theorem p_8_7 (hd : decode cc pc = .ok (.putfield index, 3)) (hw : Cond.fieldLink own index (cT_ 8 7).1 (cT_ 8 7).2.1 (cT_ 8 7).2.2.1 ∈ G_) : Snd_ l E own cc nL ret (c0 :: G_) R pc (o_pI E.2.2.2.1 8 7) := s_pI hd (by decide) (by decide) rfl rfl iw8 (G_w hw)
theorem g_8_8 (hd : decode cc pc = .ok (.getfield index, 3)) (hw : Cond.fieldLink own index (cT_ 8 8).1 (cT_ 8 8).2.1 (cT_ 8 8).2.2.1 ∈ G_) : Snd_ l E own cc nL ret (c0 :: G_) R pc (o_gI E.2.2.2.1 8 8) := s_gI hd (by decide) (by decide) rfl iw8 (G_w hw)
theorem p_8_8 (hd : decode cc pc = .ok (.putfield index, 3)) (hw : Cond.fieldLink own index (cT_ 8 8).1 (cT_ 8 8).2.1 (cT_ 8 8).2.2.1 ∈ G_) : Snd_ l E own cc nL ret (c0 :: G_) R pc (o_pI E.2.2.2.1 8 8) := s_pI hd (by decide) (by decide) rfl rfl iw8 (G_w hw)
theorem g_8_9 (hd : decode cc pc = .ok (.getfield index, 3)) (hw : Cond.fieldLink own index (cT_ 8 9).1 (cT_ 8 9).2.1 (cT_ 8 9).2.2.1 ∈ G_) : Snd_ l E own cc nL ret (c0 :: G_) R pc (o_gI E.2.2.2.1 8 9) := s_gI hd (by decide) (by decide) rfl iw8 (G_w hw)
theorem p_8_9 (hd : decode cc pc = .ok (.putfield index, 3)) (hw : Cond.fieldLink own index (cT_ 8 9).1 (cT_ 8 9).2.1 (cT_ 8 9).2.2.1 ∈ G_) : Snd_ l E own cc nL ret (c0 :: G_) R pc (o_pI E.2.2.2.1 8 9) := s_pI hd (by decide) (by decide) rfl rfl iw8 (G_w hw)
theorem g_8_10 (hd : decode cc pc = .ok (.getfield index, 3)) (hw : Cond.fieldLink own index (cT_ 8 10).1 (cT_ 8 10).2.1 (cT_ 8 10).2.2.1 ∈ G_) : Snd_ l E own cc nL ret (c0 :: G_) R pc (o_gI E.2.2.2.1 8 10) := s_gI hd (by decide) (by decide) rfl iw8 (G_w hw)
theorem p_8_10 (hd : decode cc pc = .ok (.putfield index, 3)) (hw : Cond.fieldLink own index (cT_ 8 10).1 (cT_ 8 10).2.1 (cT_ 8 10).2.2.1 ∈ G_) : Snd_ l E own cc nL ret (c0 :: G_) R pc (o_pI E.2.2.2.1 8 10) := s_pI hd (by decide) (by decide) rfl rfl iw8 (G_w hw)
theorem g_9_0 (hd : decode cc pc = .ok (.getfield index, 3)) (hw : Cond.fieldLink own index (cT_ 9 0).1 (cT_ 9 0).2.1 (cT_ 9 0).2.2.1 ∈ G_) : Snd_ l E own cc nL ret (c0 :: G_) R pc (o_gF E.2.2.2.1 9 0) := s_gF hd (by decide) (by decide) rfl rfl iw9 (G_w hw)
theorem g_9_1 (hd : decode cc pc = .ok (.getfield index, 3)) (hw : Cond.fieldLink own index (cT_ 9 1).1 (cT_ 9 1).2.1 (cT_ 9 1).2.2.1 ∈ G_) : Snd_ l E own cc nL ret (c0 :: G_) R pc (o_gF E.2.2.2.1 9 1) := s_gF hd (by decide) (by decide) rfl rfl iw9 (G_w hw)
theorem g_9_2 (hd : decode cc pc = .ok (.getfield index, 3)) (hw : Cond.fieldLink own index (cT_ 9 2).1 (cT_ 9 2).2.1 (cT_ 9 2).2.2.1 ∈ G_) : Snd_ l E own cc nL ret (c0 :: G_) R pc (o_gF E.2.2.2.1 9 2) := s_gF hd (by decide) (by decide) rfl rfl iw9 (G_w hw)
theorem g_9_3 (hd : decode cc pc = .ok (.getfield index, 3)) (hw : Cond.fieldLink own index (cT_ 9 3).1 (cT_ 9 3).2.1 (cT_ 9 3).2.2.1 ∈ G_) : Snd_ l E own cc nL ret (c0 :: G_) R pc (o_gF E.2.2.2.1 9 3) := s_gF hd (by decide) (by decide) rfl rfl iw9 (G_w hw)
theorem g_9_4 (hd : decode cc pc = .ok (.getfield index, 3)) (hw : Cond.fieldLink own index (cT_ 9 4).1 (cT_ 9 4).2.1 (cT_ 9 4).2.2.1 ∈ G_) : Snd_ l E own cc nL ret (c0 :: G_) R pc (o_gI E.2.2.2.1 9 4) := s_gI hd (by decide) (by decide) rfl iw9 (G_w hw)
theorem p_9_4 (hd : decode cc pc = .ok (.putfield index, 3)) (hw : Cond.fieldLink own index (cT_ 9 4).1 (cT_ 9 4).2.1 (cT_ 9 4).2.2.1 ∈ G_) : Snd_ l E own cc nL ret (c0 :: G_) R pc (o_pI E.2.2.2.1 9 4) := s_pI hd (by decide) (by decide) rfl rfl iw9 (G_w hw)
theorem g_9_5 (hd : decode cc pc = .ok (.getfield index, 3)) (hw : Cond.fieldLink own index (cT_ 9 5).1 (cT_ 9 5).2.1 (cT_ 9 5).2.2.1 ∈ G_) : Snd_ l E own cc nL ret (c0 :: G_) R pc (o_gI E.2.2.2.1 9 5) := s_gI hd (by decide) (by decide) rfl iw9 (G_w hw)
theorem p_9_5 (hd : decode cc pc = .ok (.putfield index, 3)) (hw : Cond.fieldLink own index (cT_ 9 5).1 (cT_ 9 5).2.1 (cT_ 9 5).2.2.1 ∈ G_) : Snd_ l E own cc nL ret (c0 :: G_) R pc (o_pI E.2.2.2.1 9 5) := s_pI hd (by decide) (by decide) rfl rfl iw9 (G_w hw)
theorem g_10_0 (hd : decode cc pc = .ok (.getfield index, 3)) (hw : Cond.fieldLink own index (cT_ 10 0).1 (cT_ 10 0).2.1 (cT_ 10 0).2.2.1 ∈ G_) : Snd_ l E own cc nL ret (c0 :: G_) R pc (o_gF E.2.2.2.1 10 0) := s_gF hd (by decide) (by decide) rfl rfl iw10 (G_w hw)
theorem g_10_1 (hd : decode cc pc = .ok (.getfield index, 3)) (hw : Cond.fieldLink own index (cT_ 10 1).1 (cT_ 10 1).2.1 (cT_ 10 1).2.2.1 ∈ G_) : Snd_ l E own cc nL ret (c0 :: G_) R pc (o_gI E.2.2.2.1 10 1) := s_gI hd (by decide) (by decide) rfl iw10 (G_w hw)
theorem p_10_1 (hd : decode cc pc = .ok (.putfield index, 3)) (hw : Cond.fieldLink own index (cT_ 10 1).1 (cT_ 10 1).2.1 (cT_ 10 1).2.2.1 ∈ G_) : Snd_ l E own cc nL ret (c0 :: G_) R pc (o_pI E.2.2.2.1 10 1) := s_pI hd (by decide) (by decide) rfl rfl iw10 (G_w hw)
theorem g_10_2 (hd : decode cc pc = .ok (.getfield index, 3)) (hw : Cond.fieldLink own index (cT_ 10 2).1 (cT_ 10 2).2.1 (cT_ 10 2).2.2.1 ∈ G_) : Snd_ l E own cc nL ret (c0 :: G_) R pc (o_gF E.2.2.2.1 10 2) := s_gF hd (by decide) (by decide) rfl rfl iw10 (G_w hw)
theorem g_10_3 (hd : decode cc pc = .ok (.getfield index, 3)) (hw : Cond.fieldLink own index (cT_ 10 3).1 (cT_ 10 3).2.1 (cT_ 10 3).2.2.1 ∈ G_) : Snd_ l E own cc nL ret (c0 :: G_) R pc (o_gF E.2.2.2.1 10 3) := s_gF hd (by decide) (by decide) rfl rfl iw10 (G_w hw)
theorem g_10_4 (hd : decode cc pc = .ok (.getfield index, 3)) (hw : Cond.fieldLink own index (cT_ 10 4).1 (cT_ 10 4).2.1 (cT_ 10 4).2.2.1 ∈ G_) : Snd_ l E own cc nL ret (c0 :: G_) R pc (o_gF E.2.2.2.1 10 4) := s_gF hd (by decide) (by decide) rfl rfl iw10 (G_w hw)
theorem g_10_5 (hd : decode cc pc = .ok (.getfield index, 3)) (hw : Cond.fieldLink own index (cT_ 10 5).1 (cT_ 10 5).2.1 (cT_ 10 5).2.2.1 ∈ G_) : Snd_ l E own cc nL ret (c0 :: G_) R pc (o_gF E.2.2.2.1 10 5) := s_gF hd (by decide) (by decide) rfl rfl iw10 (G_w hw)
theorem g_10_6 (hd : decode cc pc = .ok (.getfield index, 3)) (hw : Cond.fieldLink own index (cT_ 10 6).1 (cT_ 10 6).2.1 (cT_ 10 6).2.2.1 ∈ G_) : Snd_ l E own cc nL ret (c0 :: G_) R pc (o_gR E.2.2.2.1 10 6) := s_gR hd (by decide) (by decide) rfl rfl iw10 (G_w hw)
theorem p_10_6 (hd : decode cc pc = .ok (.putfield index, 3)) (hw : Cond.fieldLink own index (cT_ 10 6).1 (cT_ 10 6).2.1 (cT_ 10 6).2.2.1 ∈ G_) : Snd_ l E own cc nL ret (c0 :: G_) R pc (o_pR E.2.2.2.1 10 6) := s_pR hd (by decide) (by decide) rfl rfl iw10 (G_w hw)
theorem g_10_7 (hd : decode cc pc = .ok (.getfield index, 3)) (hw : Cond.fieldLink own index (cT_ 10 7).1 (cT_ 10 7).2.1 (cT_ 10 7).2.2.1 ∈ G_) : Snd_ l E own cc nL ret (c0 :: G_) R pc (o_gI E.2.2.2.1 10 7) := s_gI hd (by decide) (by decide) rfl iw10 (G_w hw)
theorem p_10_7 (hd : decode cc pc = .ok (.putfield index, 3)) (hw : Cond.fieldLink own index (cT_ 10 7).1 (cT_ 10 7).2.1 (cT_ 10 7).2.2.1 ∈ G_) : Snd_ l E own cc nL ret (c0 :: G_) R pc (o_pI E.2.2.2.1 10 7) := s_pI hd (by decide) (by decide) rfl rfl iw10 (G_w hw)
theorem g_10_8 (hd : decode cc pc = .ok (.getfield index, 3)) (hw : Cond.fieldLink own index (cT_ 10 8).1 (cT_ 10 8).2.1 (cT_ 10 8).2.2.1 ∈ G_) : Snd_ l E own cc nL ret (c0 :: G_) R pc (o_gI E.2.2.2.1 10 8) := s_gI hd (by decide) (by decide) rfl iw10 (G_w hw)
theorem p_10_8 (hd : decode cc pc = .ok (.putfield index, 3)) (hw : Cond.fieldLink own index (cT_ 10 8).1 (cT_ 10 8).2.1 (cT_ 10 8).2.2.1 ∈ G_) : Snd_ l E own cc nL ret (c0 :: G_) R pc (o_pI E.2.2.2.1 10 8) := s_pI hd (by decide) (by decide) rfl rfl iw10 (G_w hw)
theorem g_10_9 (hd : decode cc pc = .ok (.getfield index, 3)) (hw : Cond.fieldLink own index (cT_ 10 9).1 (cT_ 10 9).2.1 (cT_ 10 9).2.2.1 ∈ G_) : Snd_ l E own cc nL ret (c0 :: G_) R pc (o_gI E.2.2.2.1 10 9) := s_gI hd (by decide) (by decide) rfl iw10 (G_w hw)
theorem p_10_9 (hd : decode cc pc = .ok (.putfield index, 3)) (hw : Cond.fieldLink own index (cT_ 10 9).1 (cT_ 10 9).2.1 (cT_ 10 9).2.2.1 ∈ G_) : Snd_ l E own cc nL ret (c0 :: G_) R pc (o_pI E.2.2.2.1 10 9) := s_pI hd (by decide) (by decide) rfl rfl iw10 (G_w hw)
theorem g_11_0 (hd : decode cc pc = .ok (.getfield index, 3)) (hw : Cond.fieldLink own index (cT_ 11 0).1 (cT_ 11 0).2.1 (cT_ 11 0).2.2.1 ∈ G_) : Snd_ l E own cc nL ret (c0 :: G_) R pc (o_gF E.2.2.2.1 11 0) := s_gF hd (by decide) (by decide) rfl rfl iw11 (G_w hw)
theorem g_11_1 (hd : decode cc pc = .ok (.getfield index, 3)) (hw : Cond.fieldLink own index (cT_ 11 1).1 (cT_ 11 1).2.1 (cT_ 11 1).2.2.1 ∈ G_) : Snd_ l E own cc nL ret (c0 :: G_) R pc (o_gF E.2.2.2.1 11 1) := s_gF hd (by decide) (by decide) rfl rfl iw11 (G_w hw)
theorem g_11_2 (hd : decode cc pc = .ok (.getfield index, 3)) (hw : Cond.fieldLink own index (cT_ 11 2).1 (cT_ 11 2).2.1 (cT_ 11 2).2.2.1 ∈ G_) : Snd_ l E own cc nL ret (c0 :: G_) R pc (o_gF E.2.2.2.1 11 2) := s_gF hd (by decide) (by decide) rfl rfl iw11 (G_w hw)
theorem g_11_3 (hd : decode cc pc = .ok (.getfield index, 3)) (hw : Cond.fieldLink own index (cT_ 11 3).1 (cT_ 11 3).2.1 (cT_ 11 3).2.2.1 ∈ G_) : Snd_ l E own cc nL ret (c0 :: G_) R pc (o_gF E.2.2.2.1 11 3) := s_gF hd (by decide) (by decide) rfl rfl iw11 (G_w hw)
theorem g_11_4 (hd : decode cc pc = .ok (.getfield index, 3)) (hw : Cond.fieldLink own index (cT_ 11 4).1 (cT_ 11 4).2.1 (cT_ 11 4).2.2.1 ∈ G_) : Snd_ l E own cc nL ret (c0 :: G_) R pc (o_gF E.2.2.2.1 11 4) := s_gF hd (by decide) (by decide) rfl rfl iw11 (G_w hw)
theorem g_11_5 (hd : decode cc pc = .ok (.getfield index, 3)) (hw : Cond.fieldLink own index (cT_ 11 5).1 (cT_ 11 5).2.1 (cT_ 11 5).2.2.1 ∈ G_) : Snd_ l E own cc nL ret (c0 :: G_) R pc (o_gF E.2.2.2.1 11 5) := s_gF hd (by decide) (by decide) rfl rfl iw11 (G_w hw)
theorem g_11_6 (hd : decode cc pc = .ok (.getfield index, 3)) (hw : Cond.fieldLink own index (cT_ 11 6).1 (cT_ 11 6).2.1 (cT_ 11 6).2.2.1 ∈ G_) : Snd_ l E own cc nL ret (c0 :: G_) R pc (o_gF E.2.2.2.1 11 6) := s_gF hd (by decide) (by decide) rfl rfl iw11 (G_w hw)
theorem g_11_7 (hd : decode cc pc = .ok (.getfield index, 3)) (hw : Cond.fieldLink own index (cT_ 11 7).1 (cT_ 11 7).2.1 (cT_ 11 7).2.2.1 ∈ G_) : Snd_ l E own cc nL ret (c0 :: G_) R pc (o_gF E.2.2.2.1 11 7) := s_gF hd (by decide) (by decide) rfl rfl iw11 (G_w hw)
theorem g_11_8 (hd : decode cc pc = .ok (.getfield index, 3)) (hw : Cond.fieldLink own index (cT_ 11 8).1 (cT_ 11 8).2.1 (cT_ 11 8).2.2.1 ∈ G_) : Snd_ l E own cc nL ret (c0 :: G_) R pc (o_gF E.2.2.2.1 11 8) := s_gF hd (by decide) (by decide) rfl rfl iw11 (G_w hw)
theorem g_11_9 (hd : decode cc pc = .ok (.getfield index, 3)) (hw : Cond.fieldLink own index (cT_ 11 9).1 (cT_ 11 9).2.1 (cT_ 11 9).2.2.1 ∈ G_) : Snd_ l E own cc nL ret (c0 :: G_) R pc (o_gF E.2.2.2.1 11 9) := s_gF hd (by decide) (by decide) rfl rfl iw11 (G_w hw)
theorem g_11_10 (hd : decode cc pc = .ok (.getfield index, 3)) (hw : Cond.fieldLink own index (cT_ 11 10).1 (cT_ 11 10).2.1 (cT_ 11 10).2.2.1 ∈ G_) : Snd_ l E own cc nL ret (c0 :: G_) R pc (o_gF E.2.2.2.1 11 10) := s_gF hd (by decide) (by decide) rfl rfl iw11 (G_w hw)
theorem g_11_11 (hd : decode cc pc = .ok (.getfield index, 3)) (hw : Cond.fieldLink own index (cT_ 11 11).1 (cT_ 11 11).2.1 (cT_ 11 11).2.2.1 ∈ G_) : Snd_ l E own cc nL ret (c0 :: G_) R pc (o_gF E.2.2.2.1 11 11) := s_gF hd (by decide) (by decide) rfl rfl iw11 (G_w hw)
theorem g_11_12 (hd : decode cc pc = .ok (.getfield index, 3)) (hw : Cond.fieldLink own index (cT_ 11 12).1 (cT_ 11 12).2.1 (cT_ 11 12).2.2.1 ∈ G_) : Snd_ l E own cc nL ret (c0 :: G_) R pc (o_gR E.2.2.2.1 11 12) := s_gR hd (by decide) (by decide) rfl rfl iw11 (G_w hw)
theorem p_11_12 (hd : decode cc pc = .ok (.putfield index, 3)) (hw : Cond.fieldLink own index (cT_ 11 12).1 (cT_ 11 12).2.1 (cT_ 11 12).2.2.1 ∈ G_) : Snd_ l E own cc nL ret (c0 :: G_) R pc (o_pR E.2.2.2.1 11 12) := s_pR hd (by decide) (by decide) rfl rfl iw11 (G_w hw)
theorem g_11_13 (hd : decode cc pc = .ok (.getfield index, 3)) (hw : Cond.fieldLink own index (cT_ 11 13).1 (cT_ 11 13).2.1 (cT_ 11 13).2.2.1 ∈ G_) : Snd_ l E own cc nL ret (c0 :: G_) R pc (o_gR E.2.2.2.1 11 13) := s_gR hd (by decide) (by decide) rfl rfl iw11 (G_w hw)
theorem p_11_13 (hd : decode cc pc = .ok (.putfield index, 3)) (hw : Cond.fieldLink own index (cT_ 11 13).1 (cT_ 11 13).2.1 (cT_ 11 13).2.2.1 ∈ G_) : Snd_ l E own cc nL ret (c0 :: G_) R pc (o_pR E.2.2.2.1 11 13) := s_pR hd (by decide) (by decide) rfl rfl iw11 (G_w hw)
theorem g_11_14 (hd : decode cc pc = .ok (.getfield index, 3)) (hw : Cond.fieldLink own index (cT_ 11 14).1 (cT_ 11 14).2.1 (cT_ 11 14).2.2.1 ∈ G_) : Snd_ l E own cc nL ret (c0 :: G_) R pc (o_gR E.2.2.2.1 11 14) := s_gR hd (by decide) (by decide) rfl rfl iw11 (G_w hw)
theorem p_11_14 (hd : decode cc pc = .ok (.putfield index, 3)) (hw : Cond.fieldLink own index (cT_ 11 14).1 (cT_ 11 14).2.1 (cT_ 11 14).2.2.1 ∈ G_) : Snd_ l E own cc nL ret (c0 :: G_) R pc (o_pR E.2.2.2.1 11 14) := s_pR hd (by decide) (by decide) rfl rfl iw11 (G_w hw)
theorem g_11_15 (hd : decode cc pc = .ok (.getfield index, 3)) (hw : Cond.fieldLink own index (cT_ 11 15).1 (cT_ 11 15).2.1 (cT_ 11 15).2.2.1 ∈ G_) : Snd_ l E own cc nL ret (c0 :: G_) R pc (o_gR E.2.2.2.1 11 15) := s_gR hd (by decide) (by decide) rfl rfl iw11 (G_w hw)
theorem p_11_15 (hd : decode cc pc = .ok (.putfield index, 3)) (hw : Cond.fieldLink own index (cT_ 11 15).1 (cT_ 11 15).2.1 (cT_ 11 15).2.2.1 ∈ G_) : Snd_ l E own cc nL ret (c0 :: G_) R pc (o_pR E.2.2.2.1 11 15) := s_pR hd (by decide) (by decide) rfl rfl iw11 (G_w hw)
theorem g_11_16 (hd : decode cc pc = .ok (.getfield index, 3)) (hw : Cond.fieldLink own index (cT_ 11 16).1 (cT_ 11 16).2.1 (cT_ 11 16).2.2.1 ∈ G_) : Snd_ l E own cc nL ret (c0 :: G_) R pc (o_gR E.2.2.2.1 11 16) := s_gR hd (by decide) (by decide) rfl rfl iw11 (G_w hw)
theorem p_11_16 (hd : decode cc pc = .ok (.putfield index, 3)) (hw : Cond.fieldLink own index (cT_ 11 16).1 (cT_ 11 16).2.1 (cT_ 11 16).2.2.1 ∈ G_) : Snd_ l E own cc nL ret (c0 :: G_) R pc (o_pR E.2.2.2.1 11 16) := s_pR hd (by decide) (by decide) rfl rfl iw11 (G_w hw)
theorem g_11_17 (hd : decode cc pc = .ok (.getfield index, 3)) (hw : Cond.fieldLink own index (cT_ 11 17).1 (cT_ 11 17).2.1 (cT_ 11 17).2.2.1 ∈ G_) : Snd_ l E own cc nL ret (c0 :: G_) R pc (o_gR E.2.2.2.1 11 17) := s_gR hd (by decide) (by decide) rfl rfl iw11 (G_w hw)
theorem p_11_17 (hd : decode cc pc = .ok (.putfield index, 3)) (hw : Cond.fieldLink own index (cT_ 11 17).1 (cT_ 11 17).2.1 (cT_ 11 17).2.2.1 ∈ G_) : Snd_ l E own cc nL ret (c0 :: G_) R pc (o_pR E.2.2.2.1 11 17) := s_pR hd (by decide) (by decide) rfl rfl iw11 (G_w hw)
theorem g_11_18 (hd : decode cc pc = .ok (.getfield index, 3)) (hw : Cond.fieldLink own index (cT_ 11 18).1 (cT_ 11 18).2.1 (cT_ 11 18).2.2.1 ∈ G_) : Snd_ l E own cc nL ret (c0 :: G_) R pc (o_gI E.2.2.2.1 11 18) := s_gI hd (by decide) (by decide) rfl iw11 (G_w hw)
theorem p_11_18 (hd : decode cc pc = .ok (.putfield index, 3)) (hw : Cond.fieldLink own index (cT_ 11 18).1 (cT_ 11 18).2.1 (cT_ 11 18).2.2.1 ∈ G_) : Snd_ l E own cc nL ret (c0 :: G_) R pc (o_pZ E.2.2.2.1 11 18) := s_pZ hd (by decide) (by decide) rfl rfl iw11 (G_w hw)
theorem g_11_19 (hd : decode cc pc = .ok (.getfield index, 3)) (hw : Cond.fieldLink own index (cT_ 11 19).1 (cT_ 11 19).2.1 (cT_ 11 19).2.2.1 ∈ G_) : Snd_ l E own cc nL ret (c0 :: G_) R pc (o_gI E.2.2.2.1 11 19) := s_gI hd (by decide) (by decide) rfl iw11 (G_w hw)
theorem p_11_19 (hd : decode cc pc = .ok (.putfield index, 3)) (hw : Cond.fieldLink own index (cT_ 11 19).1 (cT_ 11 19).2.1 (cT_ 11 19).2.2.1 ∈ G_) : Snd_ l E own cc nL ret (c0 :: G_) R pc (o_pI E.2.2.2.1 11 19) := s_pI hd (by decide) (by decide) rfl rfl iw11 (G_w hw)
theorem g_12_0 (hd : decode cc pc = .ok (.getfield index, 3)) (hw : Cond.fieldLink own index (cT_ 12 0).1 (cT_ 12 0).2.1 (cT_ 12 0).2.2.1 ∈ G_) : Snd_ l E own cc nL ret (c0 :: G_) R pc (o_gI E.2.2.2.1 12 0) := s_gI hd (by decide) (by decide) rfl iw12 (G_w hw)
theorem p_12_0 (hd : decode cc pc = .ok (.putfield index, 3)) (hw : Cond.fieldLink own index (cT_ 12 0).1 (cT_ 12 0).2.1 (cT_ 12 0).2.2.1 ∈ G_) : Snd_ l E own cc nL ret (c0 :: G_) R pc (o_pI E.2.2.2.1 12 0) := s_pI hd (by decide) (by decide) rfl rfl iw12 (G_w hw)
theorem g_12_1 (hd : decode cc pc = .ok (.getfield index, 3)) (hw : Cond.fieldLink own index (cT_ 12 1).1 (cT_ 12 1).2.1 (cT_ 12 1).2.2.1 ∈ G_) : Snd_ l E own cc nL ret (c0 :: G_) R pc (o_gF E.2.2.2.1 12 1) := s_gF hd (by decide) (by decide) rfl rfl iw12 (G_w hw)
theorem g_12_2 (hd : decode cc pc = .ok (.getfield index, 3)) (hw : Cond.fieldLink own index (cT_ 12 2).1 (cT_ 12 2).2.1 (cT_ 12 2).2.2.1 ∈ G_) : Snd_ l E own cc nL ret (c0 :: G_) R pc (o_gI E.2.2.2.1 12 2) := s_gI hd (by decide) (by decide) rfl iw12 (G_w hw)
theorem p_12_2 (hd : decode cc pc = .ok (.putfield index, 3)) (hw : Cond.fieldLink own index (cT_ 12 2).1 (cT_ 12 2).2.1 (cT_ 12 2).2.2.1 ∈ G_) : Snd_ l E own cc nL ret (c0 :: G_) R pc (o_pI E.2.2.2.1 12 2) := s_pI hd (by decide) (by decide) rfl rfl iw12 (G_w hw)
theorem g_12_3 (hd : decode cc pc = .ok (.getfield index, 3)) (hw : Cond.fieldLink own index (cT_ 12 3).1 (cT_ 12 3).2.1 (cT_ 12 3).2.2.1 ∈ G_) : Snd_ l E own cc nL ret (c0 :: G_) R pc (o_gI E.2.2.2.1 12 3) := s_gI hd (by decide) (by decide) rfl iw12 (G_w hw)
theorem p_12_3 (hd : decode cc pc = .ok (.putfield index, 3)) (hw : Cond.fieldLink own index (cT_ 12 3).1 (cT_ 12 3).2.1 (cT_ 12 3).2.2.1 ∈ G_) : Snd_ l E own cc nL ret (c0 :: G_) R pc (o_pI E.2.2.2.1 12 3) := s_pI hd (by decide) (by decide) rfl rfl iw12 (G_w hw)
theorem g_12_4 (hd : decode cc pc = .ok (.getfield index, 3)) (hw : Cond.fieldLink own index (cT_ 12 4).1 (cT_ 12 4).2.1 (cT_ 12 4).2.2.1 ∈ G_) : Snd_ l E own cc nL ret (c0 :: G_) R pc (o_gI E.2.2.2.1 12 4) := s_gI hd (by decide) (by decide) rfl iw12 (G_w hw)
theorem p_12_4 (hd : decode cc pc = .ok (.putfield index, 3)) (hw : Cond.fieldLink own index (cT_ 12 4).1 (cT_ 12 4).2.1 (cT_ 12 4).2.2.1 ∈ G_) : Snd_ l E own cc nL ret (c0 :: G_) R pc (o_pI E.2.2.2.1 12 4) := s_pI hd (by decide) (by decide) rfl rfl iw12 (G_w hw)
theorem g_12_5 (hd : decode cc pc = .ok (.getfield index, 3)) (hw : Cond.fieldLink own index (cT_ 12 5).1 (cT_ 12 5).2.1 (cT_ 12 5).2.2.1 ∈ G_) : Snd_ l E own cc nL ret (c0 :: G_) R pc (o_gI E.2.2.2.1 12 5) := s_gI hd (by decide) (by decide) rfl iw12 (G_w hw)
theorem p_12_5 (hd : decode cc pc = .ok (.putfield index, 3)) (hw : Cond.fieldLink own index (cT_ 12 5).1 (cT_ 12 5).2.1 (cT_ 12 5).2.2.1 ∈ G_) : Snd_ l E own cc nL ret (c0 :: G_) R pc (o_pI E.2.2.2.1 12 5) := s_pI hd (by decide) (by decide) rfl rfl iw12 (G_w hw)
theorem g_12_6 (hd : decode cc pc = .ok (.getfield index, 3)) (hw : Cond.fieldLink own index (cT_ 12 6).1 (cT_ 12 6).2.1 (cT_ 12 6).2.2.1 ∈ G_) : Snd_ l E own cc nL ret (c0 :: G_) R pc (o_gI E.2.2.2.1 12 6) := s_gI hd (by decide) (by decide) rfl iw12 (G_w hw)
theorem p_12_6 (hd : decode cc pc = .ok (.putfield index, 3)) (hw : Cond.fieldLink own index (cT_ 12 6).1 (cT_ 12 6).2.1 (cT_ 12 6).2.2.1 ∈ G_) : Snd_ l E own cc nL ret (c0 :: G_) R pc (o_pI E.2.2.2.1 12 6) := s_pI hd (by decide) (by decide) rfl rfl iw12 (G_w hw)
theorem g_12_7 (hd : decode cc pc = .ok (.getfield index, 3)) (hw : Cond.fieldLink own index (cT_ 12 7).1 (cT_ 12 7).2.1 (cT_ 12 7).2.2.1 ∈ G_) : Snd_ l E own cc nL ret (c0 :: G_) R pc (o_gI E.2.2.2.1 12 7) := s_gI hd (by decide) (by decide) rfl iw12 (G_w hw)
theorem p_12_7 (hd : decode cc pc = .ok (.putfield index, 3)) (hw : Cond.fieldLink own index (cT_ 12 7).1 (cT_ 12 7).2.1 (cT_ 12 7).2.2.1 ∈ G_) : Snd_ l E own cc nL ret (c0 :: G_) R pc (o_pI E.2.2.2.1 12 7) := s_pI hd (by decide) (by decide) rfl rfl iw12 (G_w hw)
theorem g_12_8 (hd : decode cc pc = .ok (.getfield index, 3)) (hw : Cond.fieldLink own index (cT_ 12 8).1 (cT_ 12 8).2.1 (cT_ 12 8).2.2.1 ∈ G_) : Snd_ l E own cc nL ret (c0 :: G_) R pc (o_gI E.2.2.2.1 12 8) := s_gI hd (by decide) (by decide) rfl iw12 (G_w hw)
theorem p_12_8 (hd : decode cc pc = .ok (.putfield index, 3)) (hw : Cond.fieldLink own index (cT_ 12 8).1 (cT_ 12 8).2.1 (cT_ 12 8).2.2.1 ∈ G_) : Snd_ l E own cc nL ret (c0 :: G_) R pc (o_pI E.2.2.2.1 12 8) := s_pI hd (by decide) (by decide) rfl rfl iw12 (G_w hw)
theorem g_12_9 (hd : decode cc pc = .ok (.getfield index, 3)) (hw : Cond.fieldLink own index (cT_ 12 9).1 (cT_ 12 9).2.1 (cT_ 12 9).2.2.1 ∈ G_) : Snd_ l E own cc nL ret (c0 :: G_) R pc (o_gI E.2.2.2.1 12 9) := s_gI hd (by decide) (by decide) rfl iw12 (G_w hw)
theorem p_12_9 (hd : decode cc pc = .ok (.putfield index, 3)) (hw : Cond.fieldLink own index (cT_ 12 9).1 (cT_ 12 9).2.1 (cT_ 12 9).2.2.1 ∈ G_) : Snd_ l E own cc nL ret (c0 :: G_) R pc (o_pI E.2.2.2.1 12 9) := s_pI hd (by decide) (by decide) rfl rfl iw12 (G_w hw)
theorem g_12_10 (hd : decode cc pc = .ok (.getfield index, 3)) (hw : Cond.fieldLink own index (cT_ 12 10).1 (cT_ 12 10).2.1 (cT_ 12 10).2.2.1 ∈ G_) : Snd_ l E own cc nL ret (c0 :: G_) R pc (o_gI E.2.2.2.1 12 10) := s_gI hd (by decide) (by decide) rfl iw12 (G_w hw)
theorem p_12_10 (hd : decode cc pc = .ok (.putfield index, 3)) (hw : Cond.fieldLink own index (cT_ 12 10).1 (cT_ 12 10).2.1 (cT_ 12 10).2.2.1 ∈ G_) : Snd_ l E own cc nL ret (c0 :: G_) R pc (o_pI E.2.2.2.1 12 10) := s_pI hd (by decide) (by decide) rfl rfl iw12 (G_w hw)
theorem g_12_11 (hd : decode cc pc = .ok (.getfield index, 3)) (hw : Cond.fieldLink own index (cT_ 12 11).1 (cT_ 12 11).2.1 (cT_ 12 11).2.2.1 ∈ G_) : Snd_ l E own cc nL ret (c0 :: G_) R pc (o_gI E.2.2.2.1 12 11) := s_gI hd (by decide) (by decide) rfl iw12 (G_w hw)
theorem p_12_11 (hd : decode cc pc = .ok (.putfield index, 3)) (hw : Cond.fieldLink own index (cT_ 12 11).1 (cT_ 12 11).2.1 (cT_ 12 11).2.2.1 ∈ G_) : Snd_ l E own cc nL ret (c0 :: G_) R pc (o_pI E.2.2.2.1 12 11) := s_pI hd (by decide) (by decide) rfl rfl iw12 (G_w hw)
theorem g_12_12 (hd : decode cc pc = .ok (.getfield index, 3)) (hw : Cond.fieldLink own index (cT_ 12 12).1 (cT_ 12 12).2.1 (cT_ 12 12).2.2.1 ∈ G_) : Snd_ l E own cc nL ret (c0 :: G_) R pc (o_gJ E.2.2.2.1 12 12) := s_gJ hd (by decide) (by decide) rfl iw12 (G_w hw)
theorem p_12_12 (hd : decode cc pc = .ok (.putfield index, 3)) (hw : Cond.fieldLink own index (cT_ 12 12).1 (cT_ 12 12).2.1 (cT_ 12 12).2.2.1 ∈ G_) : Snd_ l E own cc nL ret (c0 :: G_) R pc (o_pJ E.2.2.2.1 12 12) := s_pJ hd (by decide) (by decide) rfl rfl iw12 (G_w hw)
theorem g_12_13 (hd : decode cc pc = .ok (.getfield index, 3)) (hw : Cond.fieldLink own index (cT_ 12 13).1 (cT_ 12 13).2.1 (cT_ 12 13).2.2.1 ∈ G_) : Snd_ l E own cc nL ret (c0 :: G_) R pc (o_gI E.2.2.2.1 12 13) := s_gI hd (by decide) (by decide) rfl iw12 (G_w hw)
theorem p_12_13 (hd : decode cc pc = .ok (.putfield index, 3)) (hw : Cond.fieldLink own index (cT_ 12 13).1 (cT_ 12 13).2.1 (cT_ 12 13).2.2.1 ∈ G_) : Snd_ l E own cc nL ret (c0 :: G_) R pc (o_pI E.2.2.2.1 12 13) := s_pI hd (by decide) (by decide) rfl rfl iw12 (G_w hw)
theorem g_12_14 (hd : decode cc pc = .ok (.getfield index, 3)) (hw : Cond.fieldLink own index (cT_ 12 14).1 (cT_ 12 14).2.1 (cT_ 12 14).2.2.1 ∈ G_) : Snd_ l E own cc nL ret (c0 :: G_) R pc (o_gF E.2.2.2.1 12 14) := s_gF hd (by decide) (by decide) rfl rfl iw12 (G_w hw)
theorem g_12_15 (hd : decode cc pc = .ok (.getfield index, 3)) (hw : Cond.fieldLink own index (cT_ 12 15).1 (cT_ 12 15).2.1 (cT_ 12 15).2.2.1 ∈ G_) : Snd_ l E own cc nL ret (c0 :: G_) R pc (o_gF E.2.2.2.1 12 15) := s_gF hd (by decide) (by decide) rfl rfl iw12 (G_w hw)
theorem g_12_16 (hd : decode cc pc = .ok (.getfield index, 3)) (hw : Cond.fieldLink own index (cT_ 12 16).1 (cT_ 12 16).2.1 (cT_ 12 16).2.2.1 ∈ G_) : Snd_ l E own cc nL ret (c0 :: G_) R pc (o_gF E.2.2.2.1 12 16) := s_gF hd (by decide) (by decide) rfl rfl iw12 (G_w hw)
theorem g_12_17 (hd : decode cc pc = .ok (.getfield index, 3)) (hw : Cond.fieldLink own index (cT_ 12 17).1 (cT_ 12 17).2.1 (cT_ 12 17).2.2.1 ∈ G_) : Snd_ l E own cc nL ret (c0 :: G_) R pc (o_gF E.2.2.2.1 12 17) := s_gF hd (by decide) (by decide) rfl rfl iw12 (G_w hw)
theorem g_12_18 (hd : decode cc pc = .ok (.getfield index, 3)) (hw : Cond.fieldLink own index (cT_ 12 18).1 (cT_ 12 18).2.1 (cT_ 12 18).2.2.1 ∈ G_) : Snd_ l E own cc nL ret (c0 :: G_) R pc (o_gF E.2.2.2.1 12 18) := s_gF hd (by decide) (by decide) rfl rfl iw12 (G_w hw)
theorem g_12_19 (hd : decode cc pc = .ok (.getfield index, 3)) (hw : Cond.fieldLink own index (cT_ 12 19).1 (cT_ 12 19).2.1 (cT_ 12 19).2.2.1 ∈ G_) : Snd_ l E own cc nL ret (c0 :: G_) R pc (o_gF E.2.2.2.1 12 19) := s_gF hd (by decide) (by decide) rfl rfl iw12 (G_w hw)
theorem g_12_20 (hd : decode cc pc = .ok (.getfield index, 3)) (hw : Cond.fieldLink own index (cT_ 12 20).1 (cT_ 12 20).2.1 (cT_ 12 20).2.2.1 ∈ G_) : Snd_ l E own cc nL ret (c0 :: G_) R pc (o_gF E.2.2.2.1 12 20) := s_gF hd (by decide) (by decide) rfl rfl iw12 (G_w hw)
theorem g_12_21 (hd : decode cc pc = .ok (.getfield index, 3)) (hw : Cond.fieldLink own index (cT_ 12 21).1 (cT_ 12 21).2.1 (cT_ 12 21).2.2.1 ∈ G_) : Snd_ l E own cc nL ret (c0 :: G_) R pc (o_gI E.2.2.2.1 12 21) := s_gI hd (by decide) (by decide) rfl iw12 (G_w hw)
theorem p_12_21 (hd : decode cc pc = .ok (.putfield index, 3)) (hw : Cond.fieldLink own index (cT_ 12 21).1 (cT_ 12 21).2.1 (cT_ 12 21).2.2.1 ∈ G_) : Snd_ l E own cc nL ret (c0 :: G_) R pc (o_pZ E.2.2.2.1 12 21) := s_pZ hd (by decide) (by decide) rfl rfl iw12 (G_w hw)
theorem g_12_22 (hd : decode cc pc = .ok (.getfield index, 3)) (hw : Cond.fieldLink own index (cT_ 12 22).1 (cT_ 12 22).2.1 (cT_ 12 22).2.2.1 ∈ G_) : Snd_ l E own cc nL ret (c0 :: G_) R pc (o_gI E.2.2.2.1 12 22) := s_gI hd (by decide) (by decide) rfl iw12 (G_w hw)
theorem p_12_22 (hd : decode cc pc = .ok (.putfield index, 3)) (hw : Cond.fieldLink own index (cT_ 12 22).1 (cT_ 12 22).2.1 (cT_ 12 22).2.2.1 ∈ G_) : Snd_ l E own cc nL ret (c0 :: G_) R pc (o_pI E.2.2.2.1 12 22) := s_pI hd (by decide) (by decide) rfl rfl iw12 (G_w hw)
theorem g_12_23 (hd : decode cc pc = .ok (.getfield index, 3)) (hw : Cond.fieldLink own index (cT_ 12 23).1 (cT_ 12 23).2.1 (cT_ 12 23).2.2.1 ∈ G_) : Snd_ l E own cc nL ret (c0 :: G_) R pc (o_gF E.2.2.2.1 12 23) := s_gF hd (by decide) (by decide) rfl rfl iw12 (G_w hw)
theorem g_12_24 (hd : decode cc pc = .ok (.getfield index, 3)) (hw : Cond.fieldLink own index (cT_ 12 24).1 (cT_ 12 24).2.1 (cT_ 12 24).2.2.1 ∈ G_) : Snd_ l E own cc nL ret (c0 :: G_) R pc (o_gI E.2.2.2.1 12 24) := s_gI hd (by decide) (by decide) rfl iw12 (G_w hw)
theorem p_12_24 (hd : decode cc pc = .ok (.putfield index, 3)) (hw : Cond.fieldLink own index (cT_ 12 24).1 (cT_ 12 24).2.1 (cT_ 12 24).2.2.1 ∈ G_) : Snd_ l E own cc nL ret (c0 :: G_) R pc (o_pI E.2.2.2.1 12 24) := s_pI hd (by decide) (by decide) rfl rfl iw12 (G_w hw)
theorem g_12_25 (hd : decode cc pc = .ok (.getfield index, 3)) (hw : Cond.fieldLink own index (cT_ 12 25).1 (cT_ 12 25).2.1 (cT_ 12 25).2.2.1 ∈ G_) : Snd_ l E own cc nL ret (c0 :: G_) R pc (o_gF E.2.2.2.1 12 25) := s_gF hd (by decide) (by decide) rfl rfl iw12 (G_w hw)
theorem g_12_26 (hd : decode cc pc = .ok (.getfield index, 3)) (hw : Cond.fieldLink own index (cT_ 12 26).1 (cT_ 12 26).2.1 (cT_ 12 26).2.2.1 ∈ G_) : Snd_ l E own cc nL ret (c0 :: G_) R pc (o_gF E.2.2.2.1 12 26) := s_gF hd (by decide) (by decide) rfl rfl iw12 (G_w hw)
theorem g_12_27 (hd : decode cc pc = .ok (.getfield index, 3)) (hw : Cond.fieldLink own index (cT_ 12 27).1 (cT_ 12 27).2.1 (cT_ 12 27).2.2.1 ∈ G_) : Snd_ l E own cc nL ret (c0 :: G_) R pc (o_gF E.2.2.2.1 12 27) := s_gF hd (by decide) (by decide) rfl rfl iw12 (G_w hw)
theorem g_12_28 (hd : decode cc pc = .ok (.getfield index, 3)) (hw : Cond.fieldLink own index (cT_ 12 28).1 (cT_ 12 28).2.1 (cT_ 12 28).2.2.1 ∈ G_) : Snd_ l E own cc nL ret (c0 :: G_) R pc (o_gF E.2.2.2.1 12 28) := s_gF hd (by decide) (by decide) rfl rfl iw12 (G_w hw)
theorem g_12_29 (hd : decode cc pc = .ok (.getfield index, 3)) (hw : Cond.fieldLink own index (cT_ 12 29).1 (cT_ 12 29).2.1 (cT_ 12 29).2.2.1 ∈ G_) : Snd_ l E own cc nL ret (c0 :: G_) R pc (o_gI E.2.2.2.1 12 29) := s_gI hd (by decide) (by decide) rfl iw12 (G_w hw)
theorem p_12_29 (hd : decode cc pc = .ok (.putfield index, 3)) (hw : Cond.fieldLink own index (cT_ 12 29).1 (cT_ 12 29).2.1 (cT_ 12 29).2.2.1 ∈ G_) : Snd_ l E own cc nL ret (c0 :: G_) R pc (o_pI E.2.2.2.1 12 29) := s_pI hd (by decide) (by decide) rfl rfl iw12 (G_w hw)
theorem g_12_30 (hd : decode cc pc = .ok (.getfield index, 3)) (hw : Cond.fieldLink own index (cT_ 12 30).1 (cT_ 12 30).2.1 (cT_ 12 30).2.2.1 ∈ G_) : Snd_ l E own cc nL ret (c0 :: G_) R pc (o_gI E.2.2.2.1 12 30) := s_gI hd (by decide) (by decide) rfl iw12 (G_w hw)
theorem p_12_30 (hd : decode cc pc = .ok (.putfield index, 3)) (hw : Cond.fieldLink own index (cT_ 12 30).1 (cT_ 12 30).2.1 (cT_ 12 30).2.2.1 ∈ G_) : Snd_ l E own cc nL ret (c0 :: G_) R pc (o_pI E.2.2.2.1 12 30) := s_pI hd (by decide) (by decide) rfl rfl iw12 (G_w hw)
theorem g_12_31 (hd : decode cc pc = .ok (.getfield index, 3)) (hw : Cond.fieldLink own index (cT_ 12 31).1 (cT_ 12 31).2.1 (cT_ 12 31).2.2.1 ∈ G_) : Snd_ l E own cc nL ret (c0 :: G_) R pc (o_gI E.2.2.2.1 12 31) := s_gI hd (by decide) (by decide) rfl iw12 (G_w hw)
theorem p_12_31 (hd : decode cc pc = .ok (.putfield index, 3)) (hw : Cond.fieldLink own index (cT_ 12 31).1 (cT_ 12 31).2.1 (cT_ 12 31).2.2.1 ∈ G_) : Snd_ l E own cc nL ret (c0 :: G_) R pc (o_pI E.2.2.2.1 12 31) := s_pI hd (by decide) (by decide) rfl rfl iw12 (G_w hw)
theorem g_12_32 (hd : decode cc pc = .ok (.getfield index, 3)) (hw : Cond.fieldLink own index (cT_ 12 32).1 (cT_ 12 32).2.1 (cT_ 12 32).2.2.1 ∈ G_) : Snd_ l E own cc nL ret (c0 :: G_) R pc (o_gF E.2.2.2.1 12 32) := s_gF hd (by decide) (by decide) rfl rfl iw12 (G_w hw)
theorem g_12_33 (hd : decode cc pc = .ok (.getfield index, 3)) (hw : Cond.fieldLink own index (cT_ 12 33).1 (cT_ 12 33).2.1 (cT_ 12 33).2.2.1 ∈ G_) : Snd_ l E own cc nL ret (c0 :: G_) R pc (o_gI E.2.2.2.1 12 33) := s_gI hd (by decide) (by decide) rfl iw12 (G_w hw)
theorem p_12_33 (hd : decode cc pc = .ok (.putfield index, 3)) (hw : Cond.fieldLink own index (cT_ 12 33).1 (cT_ 12 33).2.1 (cT_ 12 33).2.2.1 ∈ G_) : Snd_ l E own cc nL ret (c0 :: G_) R pc (o_pI E.2.2.2.1 12 33) := s_pI hd (by decide) (by decide) rfl rfl iw12 (G_w hw)
theorem g_12_34 (hd : decode cc pc = .ok (.getfield index, 3)) (hw : Cond.fieldLink own index (cT_ 12 34).1 (cT_ 12 34).2.1 (cT_ 12 34).2.2.1 ∈ G_) : Snd_ l E own cc nL ret (c0 :: G_) R pc (o_gF E.2.2.2.1 12 34) := s_gF hd (by decide) (by decide) rfl rfl iw12 (G_w hw)
theorem g_12_35 (hd : decode cc pc = .ok (.getfield index, 3)) (hw : Cond.fieldLink own index (cT_ 12 35).1 (cT_ 12 35).2.1 (cT_ 12 35).2.2.1 ∈ G_) : Snd_ l E own cc nL ret (c0 :: G_) R pc (o_gF E.2.2.2.1 12 35) := s_gF hd (by decide) (by decide) rfl rfl iw12 (G_w hw)
theorem g_12_36 (hd : decode cc pc = .ok (.getfield index, 3)) (hw : Cond.fieldLink own index (cT_ 12 36).1 (cT_ 12 36).2.1 (cT_ 12 36).2.2.1 ∈ G_) : Snd_ l E own cc nL ret (c0 :: G_) R pc (o_gF E.2.2.2.1 12 36) := s_gF hd (by decide) (by decide) rfl rfl iw12 (G_w hw)
theorem g_12_37 (hd : decode cc pc = .ok (.getfield index, 3)) (hw : Cond.fieldLink own index (cT_ 12 37).1 (cT_ 12 37).2.1 (cT_ 12 37).2.2.1 ∈ G_) : Snd_ l E own cc nL ret (c0 :: G_) R pc (o_gI E.2.2.2.1 12 37) := s_gI hd (by decide) (by decide) rfl iw12 (G_w hw)
theorem p_12_37 (hd : decode cc pc = .ok (.putfield index, 3)) (hw : Cond.fieldLink own index (cT_ 12 37).1 (cT_ 12 37).2.1 (cT_ 12 37).2.2.1 ∈ G_) : Snd_ l E own cc nL ret (c0 :: G_) R pc (o_pI E.2.2.2.1 12 37) := s_pI hd (by decide) (by decide) rfl rfl iw12 (G_w hw)
theorem g_12_38 (hd : decode cc pc = .ok (.getfield index, 3)) (hw : Cond.fieldLink own index (cT_ 12 38).1 (cT_ 12 38).2.1 (cT_ 12 38).2.2.1 ∈ G_) : Snd_ l E own cc nL ret (c0 :: G_) R pc (o_gI E.2.2.2.1 12 38) := s_gI hd (by decide) (by decide) rfl iw12 (G_w hw)
theorem p_12_38 (hd : decode cc pc = .ok (.putfield index, 3)) (hw : Cond.fieldLink own index (cT_ 12 38).1 (cT_ 12 38).2.1 (cT_ 12 38).2.2.1 ∈ G_) : Snd_ l E own cc nL ret (c0 :: G_) R pc (o_pI E.2.2.2.1 12 38) := s_pI hd (by decide) (by decide) rfl rfl iw12 (G_w hw)
theorem g_12_39 (hd : decode cc pc = .ok (.getfield index, 3)) (hw : Cond.fieldLink own index (cT_ 12 39).1 (cT_ 12 39).2.1 (cT_ 12 39).2.2.1 ∈ G_) : Snd_ l E own cc nL ret (c0 :: G_) R pc (o_gI E.2.2.2.1 12 39) := s_gI hd (by decide) (by decide) rfl iw12 (G_w hw)
theorem p_12_39 (hd : decode cc pc = .ok (.putfield index, 3)) (hw : Cond.fieldLink own index (cT_ 12 39).1 (cT_ 12 39).2.1 (cT_ 12 39).2.2.1 ∈ G_) : Snd_ l E own cc nL ret (c0 :: G_) R pc (o_pI E.2.2.2.1 12 39) := s_pI hd (by decide) (by decide) rfl rfl iw12 (G_w hw)
theorem g_12_40 (hd : decode cc pc = .ok (.getfield index, 3)) (hw : Cond.fieldLink own index (cT_ 12 40).1 (cT_ 12 40).2.1 (cT_ 12 40).2.2.1 ∈ G_) : Snd_ l E own cc nL ret (c0 :: G_) R pc (o_gI E.2.2.2.1 12 40) := s_gI hd (by decide) (by decide) rfl iw12 (G_w hw)
theorem p_12_40 (hd : decode cc pc = .ok (.putfield index, 3)) (hw : Cond.fieldLink own index (cT_ 12 40).1 (cT_ 12 40).2.1 (cT_ 12 40).2.2.1 ∈ G_) : Snd_ l E own cc nL ret (c0 :: G_) R pc (o_pI E.2.2.2.1 12 40) := s_pI hd (by decide) (by decide) rfl rfl iw12 (G_w hw)
theorem g_12_41 (hd : decode cc pc = .ok (.getfield index, 3)) (hw : Cond.fieldLink own index (cT_ 12 41).1 (cT_ 12 41).2.1 (cT_ 12 41).2.2.1 ∈ G_) : Snd_ l E own cc nL ret (c0 :: G_) R pc (o_gF E.2.2.2.1 12 41) := s_gF hd (by decide) (by decide) rfl rfl iw12 (G_w hw)
theorem g_12_42 (hd : decode cc pc = .ok (.getfield index, 3)) (hw : Cond.fieldLink own index (cT_ 12 42).1 (cT_ 12 42).2.1 (cT_ 12 42).2.2.1 ∈ G_) : Snd_ l E own cc nL ret (c0 :: G_) R pc (o_gF E.2.2.2.1 12 42) := s_gF hd (by decide) (by decide) rfl rfl iw12 (G_w hw)
theorem g_12_43 (hd : decode cc pc = .ok (.getfield index, 3)) (hw : Cond.fieldLink own index (cT_ 12 43).1 (cT_ 12 43).2.1 (cT_ 12 43).2.2.1 ∈ G_) : Snd_ l E own cc nL ret (c0 :: G_) R pc (o_gI E.2.2.2.1 12 43) := s_gI hd (by decide) (by decide) rfl iw12 (G_w hw)
theorem p_12_43 (hd : decode cc pc = .ok (.putfield index, 3)) (hw : Cond.fieldLink own index (cT_ 12 43).1 (cT_ 12 43).2.1 (cT_ 12 43).2.2.1 ∈ G_) : Snd_ l E own cc nL ret (c0 :: G_) R pc (o_pI E.2.2.2.1 12 43) := s_pI hd (by decide) (by decide) rfl rfl iw12 (G_w hw)
theorem g_12_44 (hd : decode cc pc = .ok (.getfield index, 3)) (hw : Cond.fieldLink own index (cT_ 12 44).1 (cT_ 12 44).2.1 (cT_ 12 44).2.2.1 ∈ G_) : Snd_ l E own cc nL ret (c0 :: G_) R pc (o_gI E.2.2.2.1 12 44) := s_gI hd (by decide) (by decide) rfl iw12 (G_w hw)
theorem p_12_44 (hd : decode cc pc = .ok (.putfield index, 3)) (hw : Cond.fieldLink own index (cT_ 12 44).1 (cT_ 12 44).2.1 (cT_ 12 44).2.2.1 ∈ G_) : Snd_ l E own cc nL ret (c0 :: G_) R pc (o_pI E.2.2.2.1 12 44) := s_pI hd (by decide) (by decide) rfl rfl iw12 (G_w hw)
theorem g_12_45 (hd : decode cc pc = .ok (.getfield index, 3)) (hw : Cond.fieldLink own index (cT_ 12 45).1 (cT_ 12 45).2.1 (cT_ 12 45).2.2.1 ∈ G_) : Snd_ l E own cc nL ret (c0 :: G_) R pc (o_gI E.2.2.2.1 12 45) := s_gI hd (by decide) (by decide) rfl iw12 (G_w hw)
theorem p_12_45 (hd : decode cc pc = .ok (.putfield index, 3)) (hw : Cond.fieldLink own index (cT_ 12 45).1 (cT_ 12 45).2.1 (cT_ 12 45).2.2.1 ∈ G_) : Snd_ l E own cc nL ret (c0 :: G_) R pc (o_pI E.2.2.2.1 12 45) := s_pI hd (by decide) (by decide) rfl rfl iw12 (G_w hw)
theorem g_12_46 (hd : decode cc pc = .ok (.getfield index, 3)) (hw : Cond.fieldLink own index (cT_ 12 46).1 (cT_ 12 46).2.1 (cT_ 12 46).2.2.1 ∈ G_) : Snd_ l E own cc nL ret (c0 :: G_) R pc (o_gF E.2.2.2.1 12 46) := s_gF hd (by decide) (by decide) rfl rfl iw12 (G_w hw)
theorem g_12_47 (hd : decode cc pc = .ok (.getfield index, 3)) (hw : Cond.fieldLink own index (cT_ 12 47).1 (cT_ 12 47).2.1 (cT_ 12 47).2.2.1 ∈ G_) : Snd_ l E own cc nL ret (c0 :: G_) R pc (o_gI E.2.2.2.1 12 47) := s_gI hd (by decide) (by decide) rfl iw12 (G_w hw)
theorem p_12_47 (hd : decode cc pc = .ok (.putfield index, 3)) (hw : Cond.fieldLink own index (cT_ 12 47).1 (cT_ 12 47).2.1 (cT_ 12 47).2.2.1 ∈ G_) : Snd_ l E own cc nL ret (c0 :: G_) R pc (o_pI E.2.2.2.1 12 47) := s_pI hd (by decide) (by decide) rfl rfl iw12 (G_w hw)
theorem g_12_48 (hd : decode cc pc = .ok (.getfield index, 3)) (hw : Cond.fieldLink own index (cT_ 12 48).1 (cT_ 12 48).2.1 (cT_ 12 48).2.2.1 ∈ G_) : Snd_ l E own cc nL ret (c0 :: G_) R pc (o_gF E.2.2.2.1 12 48) := s_gF hd (by decide) (by decide) rfl rfl iw12 (G_w hw)
theorem g_12_49 (hd : decode cc pc = .ok (.getfield index, 3)) (hw : Cond.fieldLink own index (cT_ 12 49).1 (cT_ 12 49).2.1 (cT_ 12 49).2.2.1 ∈ G_) : Snd_ l E own cc nL ret (c0 :: G_) R pc (o_gF E.2.2.2.1 12 49) := s_gF hd (by decide) (by decide) rfl rfl iw12 (G_w hw)
theorem g_12_50 (hd : decode cc pc = .ok (.getfield index, 3)) (hw : Cond.fieldLink own index (cT_ 12 50).1 (cT_ 12 50).2.1 (cT_ 12 50).2.2.1 ∈ G_) : Snd_ l E own cc nL ret (c0 :: G_) R pc (o_gF E.2.2.2.1 12 50) := s_gF hd (by decide) (by decide) rfl rfl iw12 (G_w hw)
theorem g_12_51 (hd : decode cc pc = .ok (.getfield index, 3)) (hw : Cond.fieldLink own index (cT_ 12 51).1 (cT_ 12 51).2.1 (cT_ 12 51).2.2.1 ∈ G_) : Snd_ l E own cc nL ret (c0 :: G_) R pc (o_gF E.2.2.2.1 12 51) := s_gF hd (by decide) (by decide) rfl rfl iw12 (G_w hw)
theorem g_12_52 (hd : decode cc pc = .ok (.getfield index, 3)) (hw : Cond.fieldLink own index (cT_ 12 52).1 (cT_ 12 52).2.1 (cT_ 12 52).2.2.1 ∈ G_) : Snd_ l E own cc nL ret (c0 :: G_) R pc (o_gI E.2.2.2.1 12 52) := s_gI hd (by decide) (by decide) rfl iw12 (G_w hw)
theorem p_12_52 (hd : decode cc pc = .ok (.putfield index, 3)) (hw : Cond.fieldLink own index (cT_ 12 52).1 (cT_ 12 52).2.1 (cT_ 12 52).2.2.1 ∈ G_) : Snd_ l E own cc nL ret (c0 :: G_) R pc (o_pI E.2.2.2.1 12 52) := s_pI hd (by decide) (by decide) rfl rfl iw12 (G_w hw)
theorem g_12_53 (hd : decode cc pc = .ok (.getfield index, 3)) (hw : Cond.fieldLink own index (cT_ 12 53).1 (cT_ 12 53).2.1 (cT_ 12 53).2.2.1 ∈ G_) : Snd_ l E own cc nL ret (c0 :: G_) R pc (o_gI E.2.2.2.1 12 53) := s_gI hd (by decide) (by decide) rfl iw12 (G_w hw)
theorem p_12_53 (hd : decode cc pc = .ok (.putfield index, 3)) (hw : Cond.fieldLink own index (cT_ 12 53).1 (cT_ 12 53).2.1 (cT_ 12 53).2.2.1 ∈ G_) : Snd_ l E own cc nL ret (c0 :: G_) R pc (o_pI E.2.2.2.1 12 53) := s_pI hd (by decide) (by decide) rfl rfl iw12 (G_w hw)
theorem g_12_54 (hd : decode cc pc = .ok (.getfield index, 3)) (hw : Cond.fieldLink own index (cT_ 12 54).1 (cT_ 12 54).2.1 (cT_ 12 54).2.2.1 ∈ G_) : Snd_ l E own cc nL ret (c0 :: G_) R pc (o_gI E.2.2.2.1 12 54) := s_gI hd (by decide) (by decide) rfl iw12 (G_w hw)
theorem p_12_54 (hd : decode cc pc = .ok (.putfield index, 3)) (hw : Cond.fieldLink own index (cT_ 12 54).1 (cT_ 12 54).2.1 (cT_ 12 54).2.2.1 ∈ G_) : Snd_ l E own cc nL ret (c0 :: G_) R pc (o_pI E.2.2.2.1 12 54) := s_pI hd (by decide) (by decide) rfl rfl iw12 (G_w hw)
theorem g_12_55 (hd : decode cc pc = .ok (.getfield index, 3)) (hw : Cond.fieldLink own index (cT_ 12 55).1 (cT_ 12 55).2.1 (cT_ 12 55).2.2.1 ∈ G_) : Snd_ l E own cc nL ret (c0 :: G_) R pc (o_gF E.2.2.2.1 12 55) := s_gF hd (by decide) (by decide) rfl rfl iw12 (G_w hw)
theorem g_12_56 (hd : decode cc pc = .ok (.getfield index, 3)) (hw : Cond.fieldLink own index (cT_ 12 56).1 (cT_ 12 56).2.1 (cT_ 12 56).2.2.1 ∈ G_) : Snd_ l E own cc nL ret (c0 :: G_) R pc (o_gI E.2.2.2.1 12 56) := s_gI hd (by decide) (by decide) rfl iw12 (G_w hw)
theorem p_12_56 (hd : decode cc pc = .ok (.putfield index, 3)) (hw : Cond.fieldLink own index (cT_ 12 56).1 (cT_ 12 56).2.1 (cT_ 12 56).2.2.1 ∈ G_) : Snd_ l E own cc nL ret (c0 :: G_) R pc (o_pI E.2.2.2.1 12 56) := s_pI hd (by decide) (by decide) rfl rfl iw12 (G_w hw)
theorem g_12_57 (hd : decode cc pc = .ok (.getfield index, 3)) (hw : Cond.fieldLink own index (cT_ 12 57).1 (cT_ 12 57).2.1 (cT_ 12 57).2.2.1 ∈ G_) : Snd_ l E own cc nL ret (c0 :: G_) R pc (o_gI E.2.2.2.1 12 57) := s_gI hd (by decide) (by decide) rfl iw12 (G_w hw)
theorem p_12_57 (hd : decode cc pc = .ok (.putfield index, 3)) (hw : Cond.fieldLink own index (cT_ 12 57).1 (cT_ 12 57).2.1 (cT_ 12 57).2.2.1 ∈ G_) : Snd_ l E own cc nL ret (c0 :: G_) R pc (o_pI E.2.2.2.1 12 57) := s_pI hd (by decide) (by decide) rfl rfl iw12 (G_w hw)
theorem g_12_58 (hd : decode cc pc = .ok (.getfield index, 3)) (hw : Cond.fieldLink own index (cT_ 12 58).1 (cT_ 12 58).2.1 (cT_ 12 58).2.2.1 ∈ G_) : Snd_ l E own cc nL ret (c0 :: G_) R pc (o_gF E.2.2.2.1 12 58) := s_gF hd (by decide) (by decide) rfl rfl iw12 (G_w hw)
theorem g_12_59 (hd : decode cc pc = .ok (.getfield index, 3)) (hw : Cond.fieldLink own index (cT_ 12 59).1 (cT_ 12 59).2.1 (cT_ 12 59).2.2.1 ∈ G_) : Snd_ l E own cc nL ret (c0 :: G_) R pc (o_gI E.2.2.2.1 12 59) := s_gI hd (by decide) (by decide) rfl iw12 (G_w hw)
theorem p_12_59 (hd : decode cc pc = .ok (.putfield index, 3)) (hw : Cond.fieldLink own index (cT_ 12 59).1 (cT_ 12 59).2.1 (cT_ 12 59).2.2.1 ∈ G_) : Snd_ l E own cc nL ret (c0 :: G_) R pc (o_pI E.2.2.2.1 12 59) := s_pI hd (by decide) (by decide) rfl rfl iw12 (G_w hw)
theorem g_12_60 (hd : decode cc pc = .ok (.getfield index, 3)) (hw : Cond.fieldLink own index (cT_ 12 60).1 (cT_ 12 60).2.1 (cT_ 12 60).2.2.1 ∈ G_) : Snd_ l E own cc nL ret (c0 :: G_) R pc (o_gI E.2.2.2.1 12 60) := s_gI hd (by decide) (by decide) rfl iw12 (G_w hw)
theorem p_12_60 (hd : decode cc pc = .ok (.putfield index, 3)) (hw : Cond.fieldLink own index (cT_ 12 60).1 (cT_ 12 60).2.1 (cT_ 12 60).2.2.1 ∈ G_) : Snd_ l E own cc nL ret (c0 :: G_) R pc (o_pI E.2.2.2.1 12 60) := s_pI hd (by decide) (by decide) rfl rfl iw12 (G_w hw)
theorem g_12_61 (hd : decode cc pc = .ok (.getfield index, 3)) (hw : Cond.fieldLink own index (cT_ 12 61).1 (cT_ 12 61).2.1 (cT_ 12 61).2.2.1 ∈ G_) : Snd_ l E own cc nL ret (c0 :: G_) R pc (o_gI E.2.2.2.1 12 61) := s_gI hd (by decide) (by decide) rfl iw12 (G_w hw)
theorem p_12_61 (hd : decode cc pc = .ok (.putfield index, 3)) (hw : Cond.fieldLink own index (cT_ 12 61).1 (cT_ 12 61).2.1 (cT_ 12 61).2.2.1 ∈ G_) : Snd_ l E own cc nL ret (c0 :: G_) R pc (o_pI E.2.2.2.1 12 61) := s_pI hd (by decide) (by decide) rfl rfl iw12 (G_w hw)
theorem g_12_62 (hd : decode cc pc = .ok (.getfield index, 3)) (hw : Cond.fieldLink own index (cT_ 12 62).1 (cT_ 12 62).2.1 (cT_ 12 62).2.2.1 ∈ G_) : Snd_ l E own cc nL ret (c0 :: G_) R pc (o_gI E.2.2.2.1 12 62) := s_gI hd (by decide) (by decide) rfl iw12 (G_w hw)
theorem p_12_62 (hd : decode cc pc = .ok (.putfield index, 3)) (hw : Cond.fieldLink own index (cT_ 12 62).1 (cT_ 12 62).2.1 (cT_ 12 62).2.2.1 ∈ G_) : Snd_ l E own cc nL ret (c0 :: G_) R pc (o_pI E.2.2.2.1 12 62) := s_pI hd (by decide) (by decide) rfl rfl iw12 (G_w hw)
end FIELDS
theorem ml_RL_21 : Cond.methodLink RL 21 yX11_init ∈ G_ := G_1 (i := 27) rfl rfl
theorem ml_RX11_9 : Cond.methodLink RX11 9 yX8_init ∈ G_ := G_1 (i := 35) rfl rfl
theorem ml_RX8_21 : Cond.methodLink RX8 21 yJ0_length_8abf5 ∈ G_ := G_1 (i := 40) rfl rfl
theorem ml_RJ0_335 : Cond.methodLink RJ0 335 yJ0_coder_7d493 ∈ G_ := G_1 (i := 44) rfl rfl
theorem ml_RX8_27 : Cond.methodLink RX8 27 yJ0_charAt_5068e ∈ G_ := G_1 (i := 50) rfl rfl
theorem ml_RJ0_492 : Cond.methodLink RJ0 492 yJ0_isLatin1_aae02 ∈ G_ := G_1 (i := 54) rfl rfl
theorem ml_RJ0_495 : Cond.methodLink RJ0 495 yJ1_charAt_3b067 ∈ G_ := G_1 (i := 58) rfl rfl
theorem ml_RJ1_9 : Cond.methodLink RJ1 9 yJ0_checkIndex_df160 ∈ G_ := G_1 (i := 61) rfl rfl
theorem ml_RJ0_1059 : Cond.methodLink RJ0 1059 yJ3_checkIndex_8e157 ∈ G_ := G_1 (i := 66) rfl rfl
theorem ml_RJ0_498 : Cond.methodLink RJ0 498 yJ2_charAt_3b067 ∈ G_ := G_1 (i := 69) rfl rfl
theorem ml_RJ2_67 : Cond.methodLink RJ2 67 yJ2_checkIndex_2214a ∈ G_ := G_1 (i := 72) rfl rfl
theorem ml_RJ2_48 : Cond.methodLink RJ2 48 yJ2_length_9d52b ∈ G_ := G_1 (i := 75) rfl rfl
theorem ml_RJ2_414 : Cond.methodLink RJ2 414 yJ0_checkIndex_df160 ∈ G_ := G_1 (i := 78) rfl rfl
theorem ml_RJ2_71 : Cond.methodLink RJ2 71 yJ2_getChar_3b067 ∈ G_ := G_1 (i := 79) rfl rfl
theorem fl_RX8_11 : Cond.fieldLink RX8 11 (cT_ 8 0).1 (cT_ 8 0).2.1 (cT_ 8 0).2.2.1 ∈ G_ := G_1 (i := 88) rfl rfl
theorem fl_RX8_15 : Cond.fieldLink RX8 15 (cT_ 8 1).1 (cT_ 8 1).2.1 (cT_ 8 1).2.2.1 ∈ G_ := G_1 (i := 89) rfl rfl
theorem fl_RX8_31 : Cond.fieldLink RX8 31 (cT_ 8 2).1 (cT_ 8 2).2.1 (cT_ 8 2).2.2.1 ∈ G_ := G_1 (i := 90) rfl rfl
theorem fl_RX11_131 : Cond.fieldLink RX11 131 (cT_ 8 2).1 (cT_ 8 2).2.1 (cT_ 8 2).2.2.1 ∈ G_ := G_1 (i := 91) rfl rfl
theorem fl_RX8_38 : Cond.fieldLink RX8 38 (cT_ 8 3).1 (cT_ 8 3).2.1 (cT_ 8 3).2.2.1 ∈ G_ := G_1 (i := 92) rfl rfl
theorem fl_RX8_41 : Cond.fieldLink RX8 41 (cT_ 8 4).1 (cT_ 8 4).2.1 (cT_ 8 4).2.2.1 ∈ G_ := G_1 (i := 93) rfl rfl
theorem fl_RX8_53 : Cond.fieldLink RX8 53 (cT_ 8 5).1 (cT_ 8 5).2.1 (cT_ 8 5).2.2.1 ∈ G_ := G_1 (i := 94) rfl rfl
theorem fl_RX9_44 : Cond.fieldLink RX9 44 (cT_ 8 6).1 (cT_ 8 6).2.1 (cT_ 8 6).2.2.1 ∈ G_ := G_1 (i := 95) rfl rfl
theorem fl_RX6_41 : Cond.fieldLink RX6 41 (cT_ 8 6).1 (cT_ 8 6).2.1 (cT_ 8 6).2.2.1 ∈ G_ := G_1 (i := 96) rfl rfl
theorem fl_RX8_56 : Cond.fieldLink RX8 56 (cT_ 8 6).1 (cT_ 8 6).2.1 (cT_ 8 6).2.2.1 ∈ G_ := G_1 (i := 97) rfl rfl
theorem fl_RX0_89 : Cond.fieldLink RX0 89 (cT_ 8 6).1 (cT_ 8 6).2.1 (cT_ 8 6).2.2.1 ∈ G_ := G_1 (i := 98) rfl rfl
theorem fl_RX6_57 : Cond.fieldLink RX6 57 (cT_ 8 7).1 (cT_ 8 7).2.1 (cT_ 8 7).2.2.1 ∈ G_ := G_1 (i := 99) rfl rfl
theorem fl_RX8_66 : Cond.fieldLink RX8 66 (cT_ 8 7).1 (cT_ 8 7).2.1 (cT_ 8 7).2.2.1 ∈ G_ := G_1 (i := 100) rfl rfl
theorem fl_RX0_129 : Cond.fieldLink RX0 129 (cT_ 8 7).1 (cT_ 8 7).2.1 (cT_ 8 7).2.2.1 ∈ G_ := G_1 (i := 101) rfl rfl
theorem fl_RX9_73 : Cond.fieldLink RX9 73 (cT_ 8 8).1 (cT_ 8 8).2.1 (cT_ 8 8).2.2.1 ∈ G_ := G_1 (i := 102) rfl rfl
theorem fl_RX6_78 : Cond.fieldLink RX6 78 (cT_ 8 8).1 (cT_ 8 8).2.1 (cT_ 8 8).2.2.1 ∈ G_ := G_1 (i := 103) rfl rfl
theorem fl_RX0_118 : Cond.fieldLink RX0 118 (cT_ 8 8).1 (cT_ 8 8).2.1 (cT_ 8 8).2.2.1 ∈ G_ := G_1 (i := 104) rfl rfl
theorem fl_RX8_72 : Cond.fieldLink RX8 72 (cT_ 8 8).1 (cT_ 8 8).2.1 (cT_ 8 8).2.2.1 ∈ G_ := G_1 (i := 105) rfl rfl
theorem fl_RX11_152 : Cond.fieldLink RX11 152 (cT_ 8 9).1 (cT_ 8 9).2.1 (cT_ 8 9).2.2.1 ∈ G_ := G_1 (i := 106) rfl rfl
theorem fl_RX8_44 : Cond.fieldLink RX8 44 (cT_ 8 9).1 (cT_ 8 9).2.1 (cT_ 8 9).2.2.1 ∈ G_ := G_1 (i := 107) rfl rfl
theorem fl_RX8_47 : Cond.fieldLink RX8 47 (cT_ 8 10).1 (cT_ 8 10).2.1 (cT_ 8 10).2.2.1 ∈ G_ := G_1 (i := 108) rfl rfl
theorem ml_RX11_18 : Cond.methodLink RX11 18 yX0_init ∈ G_ := G_1 (i := 136) rfl rfl
theorem ml_RX0_47 : Cond.methodLink RX0 47 yX0_clear ∈ G_ := G_1 (i := 142) rfl rfl
theorem fl_RX0_9 : Cond.fieldLink RX0 9 (cT_ 0 0).1 (cT_ 0 0).2.1 (cT_ 0 0).2.2.1 ∈ G_ := G_1 (i := 146) rfl rfl
theorem fl_RX0_15 : Cond.fieldLink RX0 15 (cT_ 0 1).1 (cT_ 0 1).2.1 (cT_ 0 1).2.2.1 ∈ G_ := G_1 (i := 147) rfl rfl
theorem fl_RX2_40 : Cond.fieldLink RX2 40 (cT_ 0 1).1 (cT_ 0 1).2.1 (cT_ 0 1).2.2.1 ∈ G_ := G_1 (i := 148) rfl rfl
theorem fl_RX11_161 : Cond.fieldLink RX11 161 (cT_ 0 1).1 (cT_ 0 1).2.1 (cT_ 0 1).2.2.1 ∈ G_ := G_1 (i := 149) rfl rfl
theorem fl_RX0_18 : Cond.fieldLink RX0 18 (cT_ 0 2).1 (cT_ 0 2).2.1 (cT_ 0 2).2.2.1 ∈ G_ := G_1 (i := 150) rfl rfl
theorem fl_RX1_52 : Cond.fieldLink RX1 52 (cT_ 0 2).1 (cT_ 0 2).2.1 (cT_ 0 2).2.2.1 ∈ G_ := G_1 (i := 151) rfl rfl
theorem fl_RX10_68 : Cond.fieldLink RX10 68 (cT_ 0 2).1 (cT_ 0 2).2.1 (cT_ 0 2).2.2.1 ∈ G_ := G_1 (i := 152) rfl rfl
theorem fl_RX11_165 : Cond.fieldLink RX11 165 (cT_ 0 2).1 (cT_ 0 2).2.1 (cT_ 0 2).2.2.1 ∈ G_ := G_1 (i := 153) rfl rfl
theorem fl_RX5_109 : Cond.fieldLink RX5 109 (cT_ 0 2).1 (cT_ 0 2).2.1 (cT_ 0 2).2.2.1 ∈ G_ := G_1 (i := 154) rfl rfl
theorem fl_RX4_117 : Cond.fieldLink RX4 117 (cT_ 0 2).1 (cT_ 0 2).2.1 (cT_ 0 2).2.2.1 ∈ G_ := G_1 (i := 155) rfl rfl
theorem fl_RX0_21 : Cond.fieldLink RX0 21 (cT_ 0 3).1 (cT_ 0 3).2.1 (cT_ 0 3).2.2.1 ∈ G_ := G_1 (i := 156) rfl rfl
theorem fl_RX11_168 : Cond.fieldLink RX11 168 (cT_ 0 3).1 (cT_ 0 3).2.1 (cT_ 0 3).2.2.1 ∈ G_ := G_1 (i := 157) rfl rfl
theorem fl_RX5_115 : Cond.fieldLink RX5 115 (cT_ 0 3).1 (cT_ 0 3).2.1 (cT_ 0 3).2.2.1 ∈ G_ := G_1 (i := 158) rfl rfl
theorem fl_RX0_26 : Cond.fieldLink RX0 26 (cT_ 0 4).1 (cT_ 0 4).2.1 (cT_ 0 4).2.2.1 ∈ G_ := G_1 (i := 159) rfl rfl
theorem fl_RX2_43 : Cond.fieldLink RX2 43 (cT_ 0 4).1 (cT_ 0 4).2.1 (cT_ 0 4).2.2.1 ∈ G_ := G_1 (i := 160) rfl rfl
theorem fl_RX1_69 : Cond.fieldLink RX1 69 (cT_ 0 4).1 (cT_ 0 4).2.1 (cT_ 0 4).2.2.1 ∈ G_ := G_1 (i := 161) rfl rfl
theorem fl_RX11_175 : Cond.fieldLink RX11 175 (cT_ 0 4).1 (cT_ 0 4).2.1 (cT_ 0 4).2.2.1 ∈ G_ := G_1 (i := 162) rfl rfl
theorem fl_RX4_95 : Cond.fieldLink RX4 95 (cT_ 0 4).1 (cT_ 0 4).2.1 (cT_ 0 4).2.2.1 ∈ G_ := G_1 (i := 163) rfl rfl
theorem fl_RX0_29 : Cond.fieldLink RX0 29 (cT_ 0 5).1 (cT_ 0 5).2.1 (cT_ 0 5).2.2.1 ∈ G_ := G_1 (i := 164) rfl rfl
theorem fl_RX0_32 : Cond.fieldLink RX0 32 (cT_ 0 6).1 (cT_ 0 6).2.1 (cT_ 0 6).2.2.1 ∈ G_ := G_1 (i := 165) rfl rfl
theorem fl_RX1_66 : Cond.fieldLink RX1 66 (cT_ 0 6).1 (cT_ 0 6).2.1 (cT_ 0 6).2.2.1 ∈ G_ := G_1 (i := 166) rfl rfl
theorem fl_RX11_182 : Cond.fieldLink RX11 182 (cT_ 0 6).1 (cT_ 0 6).2.1 (cT_ 0 6).2.2.1 ∈ G_ := G_1 (i := 167) rfl rfl
theorem fl_RX0_35 : Cond.fieldLink RX0 35 (cT_ 0 7).1 (cT_ 0 7).2.1 (cT_ 0 7).2.2.1 ∈ G_ := G_1 (i := 168) rfl rfl
theorem fl_RX11_185 : Cond.fieldLink RX11 185 (cT_ 0 7).1 (cT_ 0 7).2.1 (cT_ 0 7).2.2.1 ∈ G_ := G_1 (i := 169) rfl rfl
theorem fl_RX0_38 : Cond.fieldLink RX0 38 (cT_ 0 8).1 (cT_ 0 8).2.1 (cT_ 0 8).2.2.1 ∈ G_ := G_1 (i := 170) rfl rfl
theorem fl_RX11_188 : Cond.fieldLink RX11 188 (cT_ 0 8).1 (cT_ 0 8).2.1 (cT_ 0 8).2.2.1 ∈ G_ := G_1 (i := 171) rfl rfl
theorem fl_RX0_41 : Cond.fieldLink RX0 41 (cT_ 0 9).1 (cT_ 0 9).2.1 (cT_ 0 9).2.2.1 ∈ G_ := G_1 (i := 172) rfl rfl
theorem fl_RX1_35 : Cond.fieldLink RX1 35 (cT_ 0 9).1 (cT_ 0 9).2.1 (cT_ 0 9).2.2.1 ∈ G_ := G_1 (i := 173) rfl rfl
theorem fl_RX5_37 : Cond.fieldLink RX5 37 (cT_ 0 9).1 (cT_ 0 9).2.1 (cT_ 0 9).2.2.1 ∈ G_ := G_1 (i := 174) rfl rfl
theorem fl_RX10_44 : Cond.fieldLink RX10 44 (cT_ 0 9).1 (cT_ 0 9).2.1 (cT_ 0 9).2.2.1 ∈ G_ := G_1 (i := 175) rfl rfl
theorem fl_RX11_191 : Cond.fieldLink RX11 191 (cT_ 0 9).1 (cT_ 0 9).2.1 (cT_ 0 9).2.2.1 ∈ G_ := G_1 (i := 176) rfl rfl
theorem fl_RX0_44 : Cond.fieldLink RX0 44 (cT_ 0 10).1 (cT_ 0 10).2.1 (cT_ 0 10).2.2.1 ∈ G_ := G_1 (i := 177) rfl rfl
theorem fl_RX11_194 : Cond.fieldLink RX11 194 (cT_ 0 10).1 (cT_ 0 10).2.1 (cT_ 0 10).2.2.1 ∈ G_ := G_1 (i := 178) rfl rfl
theorem fl_RX0_50 : Cond.fieldLink RX0 50 (cT_ 0 11).1 (cT_ 0 11).2.1 (cT_ 0 11).2.2.1 ∈ G_ := G_1 (i := 179) rfl rfl
theorem fl_RX2_30 : Cond.fieldLink RX2 30 (cT_ 0 11).1 (cT_ 0 11).2.1 (cT_ 0 11).2.2.1 ∈ G_ := G_1 (i := 180) rfl rfl
theorem fl_RX1_46 : Cond.fieldLink RX1 46 (cT_ 0 11).1 (cT_ 0 11).2.1 (cT_ 0 11).2.2.1 ∈ G_ := G_1 (i := 181) rfl rfl
theorem fl_RX4_77 : Cond.fieldLink RX4 77 (cT_ 0 11).1 (cT_ 0 11).2.1 (cT_ 0 11).2.2.1 ∈ G_ := G_1 (i := 182) rfl rfl
theorem fl_RX5_106 : Cond.fieldLink RX5 106 (cT_ 0 11).1 (cT_ 0 11).2.1 (cT_ 0 11).2.2.1 ∈ G_ := G_1 (i := 183) rfl rfl
theorem fl_RX11_217 : Cond.fieldLink RX11 217 (cT_ 0 11).1 (cT_ 0 11).2.1 (cT_ 0 11).2.2.1 ∈ G_ := G_1 (i := 184) rfl rfl
theorem fl_RX0_54 : Cond.fieldLink RX0 54 (cT_ 0 12).1 (cT_ 0 12).2.1 (cT_ 0 12).2.2.1 ∈ G_ := G_1 (i := 185) rfl rfl
theorem fl_RX5_32 : Cond.fieldLink RX5 32 (cT_ 0 12).1 (cT_ 0 12).2.1 (cT_ 0 12).2.2.1 ∈ G_ := G_1 (i := 186) rfl rfl
theorem fl_RX3_64 : Cond.fieldLink RX3 64 (cT_ 0 12).1 (cT_ 0 12).2.1 (cT_ 0 12).2.2.1 ∈ G_ := G_1 (i := 187) rfl rfl
theorem fl_RX1_63 : Cond.fieldLink RX1 63 (cT_ 0 12).1 (cT_ 0 12).2.1 (cT_ 0 12).2.2.1 ∈ G_ := G_1 (i := 188) rfl rfl
theorem fl_RX4_71 : Cond.fieldLink RX4 71 (cT_ 0 12).1 (cT_ 0 12).2.1 (cT_ 0 12).2.2.1 ∈ G_ := G_1 (i := 189) rfl rfl
theorem fl_RX6_92 : Cond.fieldLink RX6 92 (cT_ 0 12).1 (cT_ 0 12).2.1 (cT_ 0 12).2.2.1 ∈ G_ := G_1 (i := 190) rfl rfl
theorem fl_RX11_214 : Cond.fieldLink RX11 214 (cT_ 0 12).1 (cT_ 0 12).2.1 (cT_ 0 12).2.2.1 ∈ G_ := G_1 (i := 191) rfl rfl
theorem fl_RX0_57 : Cond.fieldLink RX0 57 (cT_ 0 13).1 (cT_ 0 13).2.1 (cT_ 0 13).2.2.1 ∈ G_ := G_1 (i := 192) rfl rfl
theorem fl_RX11_149 : Cond.fieldLink RX11 149 (cT_ 0 13).1 (cT_ 0 13).2.1 (cT_ 0 13).2.2.1 ∈ G_ := G_1 (i := 193) rfl rfl
theorem fl_RX0_60 : Cond.fieldLink RX0 60 (cT_ 0 14).1 (cT_ 0 14).2.1 (cT_ 0 14).2.2.1 ∈ G_ := G_1 (i := 194) rfl rfl
theorem fl_RX11_374 : Cond.fieldLink RX11 374 (cT_ 0 14).1 (cT_ 0 14).2.1 (cT_ 0 14).2.2.1 ∈ G_ := G_1 (i := 195) rfl rfl
theorem fl_RX0_63 : Cond.fieldLink RX0 63 (cT_ 0 15).1 (cT_ 0 15).2.1 (cT_ 0 15).2.2.1 ∈ G_ := G_1 (i := 196) rfl rfl
theorem fl_RX11_377 : Cond.fieldLink RX11 377 (cT_ 0 15).1 (cT_ 0 15).2.1 (cT_ 0 15).2.2.1 ∈ G_ := G_1 (i := 197) rfl rfl
theorem fl_RX0_66 : Cond.fieldLink RX0 66 (cT_ 0 16).1 (cT_ 0 16).2.1 (cT_ 0 16).2.2.1 ∈ G_ := G_1 (i := 198) rfl rfl
theorem fl_RX0_70 : Cond.fieldLink RX0 70 (cT_ 0 17).1 (cT_ 0 17).2.1 (cT_ 0 17).2.2.1 ∈ G_ := G_1 (i := 199) rfl rfl
theorem ml_RX11_28 : Cond.methodLink RX11 28 yX6_init ∈ G_ := G_1 (i := 239) rfl rfl
theorem fl_RX6_11 : Cond.fieldLink RX6 11 (cT_ 6 0).1 (cT_ 6 0).2.1 (cT_ 6 0).2.2.1 ∈ G_ := G_2 (i := 3) rfl rfl
theorem fl_RX3_39 : Cond.fieldLink RX3 39 (cT_ 6 0).1 (cT_ 6 0).2.1 (cT_ 6 0).2.2.1 ∈ G_ := G_2 (i := 4) rfl rfl
theorem fl_RX5_48 : Cond.fieldLink RX5 48 (cT_ 6 0).1 (cT_ 6 0).2.1 (cT_ 6 0).2.2.1 ∈ G_ := G_2 (i := 5) rfl rfl
theorem fl_RX11_223 : Cond.fieldLink RX11 223 (cT_ 6 0).1 (cT_ 6 0).2.1 (cT_ 6 0).2.2.1 ∈ G_ := G_2 (i := 6) rfl rfl
theorem fl_RX6_15 : Cond.fieldLink RX6 15 (cT_ 6 1).1 (cT_ 6 1).2.1 (cT_ 6 1).2.2.1 ∈ G_ := G_2 (i := 7) rfl rfl
theorem fl_RX3_45 : Cond.fieldLink RX3 45 (cT_ 6 1).1 (cT_ 6 1).2.1 (cT_ 6 1).2.2.1 ∈ G_ := G_2 (i := 8) rfl rfl
theorem fl_RX5_51 : Cond.fieldLink RX5 51 (cT_ 6 1).1 (cT_ 6 1).2.1 (cT_ 6 1).2.2.1 ∈ G_ := G_2 (i := 9) rfl rfl
theorem fl_RX11_226 : Cond.fieldLink RX11 226 (cT_ 6 1).1 (cT_ 6 1).2.1 (cT_ 6 1).2.2.1 ∈ G_ := G_2 (i := 10) rfl rfl
theorem fl_RX6_18 : Cond.fieldLink RX6 18 (cT_ 6 2).1 (cT_ 6 2).2.1 (cT_ 6 2).2.2.1 ∈ G_ := G_2 (i := 11) rfl rfl
theorem fl_RX3_42 : Cond.fieldLink RX3 42 (cT_ 6 2).1 (cT_ 6 2).2.1 (cT_ 6 2).2.2.1 ∈ G_ := G_2 (i := 12) rfl rfl
theorem fl_RX5_54 : Cond.fieldLink RX5 54 (cT_ 6 2).1 (cT_ 6 2).2.1 (cT_ 6 2).2.2.1 ∈ G_ := G_2 (i := 13) rfl rfl
theorem fl_RX11_229 : Cond.fieldLink RX11 229 (cT_ 6 2).1 (cT_ 6 2).2.1 (cT_ 6 2).2.2.1 ∈ G_ := G_2 (i := 14) rfl rfl
theorem fl_RX6_21 : Cond.fieldLink RX6 21 (cT_ 6 3).1 (cT_ 6 3).2.1 (cT_ 6 3).2.2.1 ∈ G_ := G_2 (i := 15) rfl rfl
theorem fl_RX3_73 : Cond.fieldLink RX3 73 (cT_ 6 3).1 (cT_ 6 3).2.1 (cT_ 6 3).2.2.1 ∈ G_ := G_2 (i := 16) rfl rfl
theorem fl_RX5_57 : Cond.fieldLink RX5 57 (cT_ 6 3).1 (cT_ 6 3).2.1 (cT_ 6 3).2.2.1 ∈ G_ := G_2 (i := 17) rfl rfl
theorem fl_RX11_232 : Cond.fieldLink RX11 232 (cT_ 6 3).1 (cT_ 6 3).2.1 (cT_ 6 3).2.2.1 ∈ G_ := G_2 (i := 18) rfl rfl
theorem fl_RX6_24 : Cond.fieldLink RX6 24 (cT_ 6 4).1 (cT_ 6 4).2.1 (cT_ 6 4).2.2.1 ∈ G_ := G_2 (i := 19) rfl rfl
theorem fl_RX3_36 : Cond.fieldLink RX3 36 (cT_ 6 4).1 (cT_ 6 4).2.1 (cT_ 6 4).2.2.1 ∈ G_ := G_2 (i := 20) rfl rfl
theorem fl_RX5_43 : Cond.fieldLink RX5 43 (cT_ 6 4).1 (cT_ 6 4).2.1 (cT_ 6 4).2.2.1 ∈ G_ := G_2 (i := 21) rfl rfl
theorem fl_RX11_200 : Cond.fieldLink RX11 200 (cT_ 6 4).1 (cT_ 6 4).2.1 (cT_ 6 4).2.2.1 ∈ G_ := G_2 (i := 22) rfl rfl
theorem ml_RX11_38 : Cond.methodLink RX11 38 yX9_init ∈ G_ := G_2 (i := 36) rfl rfl
theorem fl_RX9_11 : Cond.fieldLink RX9 11 (cT_ 9 0).1 (cT_ 9 0).2.1 (cT_ 9 0).2.2.1 ∈ G_ := G_2 (i := 40) rfl rfl
theorem fl_RX9_15 : Cond.fieldLink RX9 15 (cT_ 9 1).1 (cT_ 9 1).2.1 (cT_ 9 1).2.2.1 ∈ G_ := G_2 (i := 41) rfl rfl
theorem fl_RX9_18 : Cond.fieldLink RX9 18 (cT_ 9 2).1 (cT_ 9 2).2.1 (cT_ 9 2).2.2.1 ∈ G_ := G_2 (i := 42) rfl rfl
theorem fl_RX9_21 : Cond.fieldLink RX9 21 (cT_ 9 3).1 (cT_ 9 3).2.1 (cT_ 9 3).2.2.1 ∈ G_ := G_2 (i := 43) rfl rfl
theorem fl_RX9_24 : Cond.fieldLink RX9 24 (cT_ 9 4).1 (cT_ 9 4).2.1 (cT_ 9 4).2.2.1 ∈ G_ := G_2 (i := 44) rfl rfl
theorem fl_RX9_28 : Cond.fieldLink RX9 28 (cT_ 9 5).1 (cT_ 9 5).2.1 (cT_ 9 5).2.2.1 ∈ G_ := G_2 (i := 45) rfl rfl
theorem fl_RX11_358 : Cond.fieldLink RX11 358 (cT_ 9 5).1 (cT_ 9 5).2.1 (cT_ 9 5).2.2.1 ∈ G_ := G_2 (i := 46) rfl rfl
theorem ml_RX11_48 : Cond.methodLink RX11 48 yX5_init ∈ G_ := G_2 (i := 62) rfl rfl
theorem fl_RX5_9 : Cond.fieldLink RX5 9 (cT_ 5 0).1 (cT_ 5 0).2.1 (cT_ 5 0).2.2.1 ∈ G_ := G_2 (i := 66) rfl rfl
theorem fl_RX9_105 : Cond.fieldLink RX9 105 (cT_ 5 0).1 (cT_ 5 0).2.1 (cT_ 5 0).2.2.1 ∈ G_ := G_2 (i := 67) rfl rfl
theorem fl_RX4_108 : Cond.fieldLink RX4 108 (cT_ 5 0).1 (cT_ 5 0).2.1 (cT_ 5 0).2.2.1 ∈ G_ := G_2 (i := 68) rfl rfl
theorem fl_RX11_247 : Cond.fieldLink RX11 247 (cT_ 5 0).1 (cT_ 5 0).2.1 (cT_ 5 0).2.2.1 ∈ G_ := G_2 (i := 69) rfl rfl
theorem fl_RX5_15 : Cond.fieldLink RX5 15 (cT_ 5 1).1 (cT_ 5 1).2.1 (cT_ 5 1).2.2.1 ∈ G_ := G_2 (i := 70) rfl rfl
theorem fl_RX3_91 : Cond.fieldLink RX3 91 (cT_ 5 1).1 (cT_ 5 1).2.1 (cT_ 5 1).2.2.1 ∈ G_ := G_2 (i := 71) rfl rfl
theorem fl_RX9_87 : Cond.fieldLink RX9 87 (cT_ 5 1).1 (cT_ 5 1).2.1 (cT_ 5 1).2.2.1 ∈ G_ := G_2 (i := 72) rfl rfl
theorem fl_RX4_120 : Cond.fieldLink RX4 120 (cT_ 5 1).1 (cT_ 5 1).2.1 (cT_ 5 1).2.2.1 ∈ G_ := G_2 (i := 73) rfl rfl
theorem fl_RX11_253 : Cond.fieldLink RX11 253 (cT_ 5 1).1 (cT_ 5 1).2.1 (cT_ 5 1).2.2.1 ∈ G_ := G_2 (i := 74) rfl rfl
theorem fl_RX5_18 : Cond.fieldLink RX5 18 (cT_ 5 2).1 (cT_ 5 2).2.1 (cT_ 5 2).2.2.1 ∈ G_ := G_2 (i := 75) rfl rfl
theorem fl_RX9_92 : Cond.fieldLink RX9 92 (cT_ 5 2).1 (cT_ 5 2).2.1 (cT_ 5 2).2.2.1 ∈ G_ := G_2 (i := 76) rfl rfl
theorem fl_RX11_256 : Cond.fieldLink RX11 256 (cT_ 5 2).1 (cT_ 5 2).2.1 (cT_ 5 2).2.2.1 ∈ G_ := G_2 (i := 77) rfl rfl
theorem fl_RX5_21 : Cond.fieldLink RX5 21 (cT_ 5 3).1 (cT_ 5 3).2.1 (cT_ 5 3).2.2.1 ∈ G_ := G_2 (i := 78) rfl rfl
theorem fl_RX9_95 : Cond.fieldLink RX9 95 (cT_ 5 3).1 (cT_ 5 3).2.1 (cT_ 5 3).2.2.1 ∈ G_ := G_2 (i := 79) rfl rfl
theorem fl_RX11_244 : Cond.fieldLink RX11 244 (cT_ 5 3).1 (cT_ 5 3).2.1 (cT_ 5 3).2.2.1 ∈ G_ := G_2 (i := 80) rfl rfl
theorem fl_RX5_24 : Cond.fieldLink RX5 24 (cT_ 5 4).1 (cT_ 5 4).2.1 (cT_ 5 4).2.2.1 ∈ G_ := G_2 (i := 81) rfl rfl
theorem fl_RX11_241 : Cond.fieldLink RX11 241 (cT_ 5 4).1 (cT_ 5 4).2.1 (cT_ 5 4).2.2.1 ∈ G_ := G_2 (i := 82) rfl rfl
theorem fl_RX5_40 : Cond.fieldLink RX5 40 (cT_ 5 5).1 (cT_ 5 5).2.1 (cT_ 5 5).2.2.1 ∈ G_ := G_2 (i := 83) rfl rfl
theorem fl_RX11_238 : Cond.fieldLink RX11 238 (cT_ 5 5).1 (cT_ 5 5).2.1 (cT_ 5 5).2.2.1 ∈ G_ := G_2 (i := 84) rfl rfl
theorem fl_RX5_119 : Cond.fieldLink RX5 119 (cT_ 5 6).1 (cT_ 5 6).2.1 (cT_ 5 6).2.2.1 ∈ G_ := G_2 (i := 85) rfl rfl
theorem fl_RX11_321 : Cond.fieldLink RX11 321 (cT_ 5 6).1 (cT_ 5 6).2.1 (cT_ 5 6).2.2.1 ∈ G_ := G_2 (i := 86) rfl rfl
theorem fl_RX5_122 : Cond.fieldLink RX5 122 (cT_ 5 7).1 (cT_ 5 7).2.1 (cT_ 5 7).2.2.1 ∈ G_ := G_2 (i := 87) rfl rfl
theorem fl_RX11_324 : Cond.fieldLink RX11 324 (cT_ 5 7).1 (cT_ 5 7).2.1 (cT_ 5 7).2.2.1 ∈ G_ := G_2 (i := 88) rfl rfl
theorem fl_RX5_125 : Cond.fieldLink RX5 125 (cT_ 5 8).1 (cT_ 5 8).2.1 (cT_ 5 8).2.2.1 ∈ G_ := G_2 (i := 89) rfl rfl
theorem fl_RX11_327 : Cond.fieldLink RX11 327 (cT_ 5 8).1 (cT_ 5 8).2.1 (cT_ 5 8).2.2.1 ∈ G_ := G_2 (i := 90) rfl rfl
theorem fl_RX5_28 : Cond.fieldLink RX5 28 (cT_ 5 9).1 (cT_ 5 9).2.1 (cT_ 5 9).2.2.1 ∈ G_ := G_2 (i := 91) rfl rfl
theorem ml_RX11_57 : Cond.methodLink RX11 57 yX4_init ∈ G_ := G_2 (i := 115) rfl rfl
theorem ml_RX4_11 : Cond.methodLink RX4 11 yX5_init ∈ G_ := G_2 (i := 120) rfl rfl
theorem fl_RX4_14 : Cond.fieldLink RX4 14 (cT_ 4 0).1 (cT_ 4 0).2.1 (cT_ 4 0).2.2.1 ∈ G_ := G_2 (i := 121) rfl rfl
theorem fl_RX4_20 : Cond.fieldLink RX4 20 (cT_ 4 1).1 (cT_ 4 1).2.1 (cT_ 4 1).2.2.1 ∈ G_ := G_2 (i := 122) rfl rfl
theorem fl_RX4_24 : Cond.fieldLink RX4 24 (cT_ 4 2).1 (cT_ 4 2).2.1 (cT_ 4 2).2.2.1 ∈ G_ := G_2 (i := 123) rfl rfl
theorem fl_RX4_28 : Cond.fieldLink RX4 28 (cT_ 4 3).1 (cT_ 4 3).2.1 (cT_ 4 3).2.2.1 ∈ G_ := G_2 (i := 124) rfl rfl
theorem fl_RX4_132 : Cond.fieldLink RX4 132 (cT_ 4 4).1 (cT_ 4 4).2.1 (cT_ 4 4).2.2.1 ∈ G_ := G_2 (i := 125) rfl rfl
theorem ml_RX11_66 : Cond.methodLink RX11 66 yX3_init ∈ G_ := G_2 (i := 139) rfl rfl
theorem ml_RX3_11 : Cond.methodLink RX3 11 yX5_init ∈ G_ := G_2 (i := 144) rfl rfl
theorem fl_RX3_14 : Cond.fieldLink RX3 14 (cT_ 3 0).1 (cT_ 3 0).2.1 (cT_ 3 0).2.2.1 ∈ G_ := G_2 (i := 145) rfl rfl
theorem fl_RX3_22 : Cond.fieldLink RX3 22 (cT_ 3 1).1 (cT_ 3 1).2.1 (cT_ 3 1).2.2.1 ∈ G_ := G_2 (i := 146) rfl rfl
theorem fl_RX3_29 : Cond.fieldLink RX3 29 (cT_ 3 2).1 (cT_ 3 2).2.1 (cT_ 3 2).2.2.1 ∈ G_ := G_2 (i := 147) rfl rfl
theorem fl_RX3_56 : Cond.fieldLink RX3 56 (cT_ 3 3).1 (cT_ 3 3).2.1 (cT_ 3 3).2.2.1 ∈ G_ := G_2 (i := 148) rfl rfl
theorem fl_RX11_346 : Cond.fieldLink RX11 346 (cT_ 3 3).1 (cT_ 3 3).2.1 (cT_ 3 3).2.2.1 ∈ G_ := G_2 (i := 149) rfl rfl
theorem fl_RX3_33 : Cond.fieldLink RX3 33 (cT_ 3 4).1 (cT_ 3 4).2.1 (cT_ 3 4).2.2.1 ∈ G_ := G_2 (i := 150) rfl rfl
theorem fl_RX11_348 : Cond.fieldLink RX11 348 (cT_ 3 4).1 (cT_ 3 4).2.1 (cT_ 3 4).2.2.1 ∈ G_ := G_2 (i := 151) rfl rfl
theorem fl_RX3_58 : Cond.fieldLink RX3 58 (cT_ 3 5).1 (cT_ 3 5).2.1 (cT_ 3 5).2.2.1 ∈ G_ := G_2 (i := 152) rfl rfl
theorem fl_RX11_351 : Cond.fieldLink RX11 351 (cT_ 3 5).1 (cT_ 3 5).2.1 (cT_ 3 5).2.2.1 ∈ G_ := G_2 (i := 153) rfl rfl
theorem fl_RX3_61 : Cond.fieldLink RX3 61 (cT_ 3 6).1 (cT_ 3 6).2.1 (cT_ 3 6).2.2.1 ∈ G_ := G_2 (i := 154) rfl rfl
theorem fl_RX11_354 : Cond.fieldLink RX11 354 (cT_ 3 6).1 (cT_ 3 6).2.1 (cT_ 3 6).2.2.1 ∈ G_ := G_2 (i := 155) rfl rfl
theorem ml_RX11_73 : Cond.methodLink RX11 73 yX10_init ∈ G_ := G_2 (i := 173) rfl rfl
theorem fl_RX10_11 : Cond.fieldLink RX10 11 (cT_ 10 0).1 (cT_ 10 0).2.1 (cT_ 10 0).2.2.1 ∈ G_ := G_2 (i := 177) rfl rfl
theorem fl_RX11_278 : Cond.fieldLink RX11 278 (cT_ 10 0).1 (cT_ 10 0).2.1 (cT_ 10 0).2.2.1 ∈ G_ := G_2 (i := 178) rfl rfl
theorem fl_RX10_38 : Cond.fieldLink RX10 38 (cT_ 10 1).1 (cT_ 10 1).2.1 (cT_ 10 1).2.2.1 ∈ G_ := G_2 (i := 179) rfl rfl
theorem fl_RX11_275 : Cond.fieldLink RX11 275 (cT_ 10 1).1 (cT_ 10 1).2.1 (cT_ 10 1).2.2.1 ∈ G_ := G_2 (i := 180) rfl rfl
theorem fl_RX10_15 : Cond.fieldLink RX10 15 (cT_ 10 2).1 (cT_ 10 2).2.1 (cT_ 10 2).2.2.1 ∈ G_ := G_2 (i := 181) rfl rfl
theorem fl_RX10_18 : Cond.fieldLink RX10 18 (cT_ 10 3).1 (cT_ 10 3).2.1 (cT_ 10 3).2.2.1 ∈ G_ := G_2 (i := 182) rfl rfl
theorem fl_RX10_21 : Cond.fieldLink RX10 21 (cT_ 10 4).1 (cT_ 10 4).2.1 (cT_ 10 4).2.2.1 ∈ G_ := G_2 (i := 183) rfl rfl
theorem fl_RX10_24 : Cond.fieldLink RX10 24 (cT_ 10 5).1 (cT_ 10 5).2.1 (cT_ 10 5).2.2.1 ∈ G_ := G_2 (i := 184) rfl rfl
theorem fl_RX10_27 : Cond.fieldLink RX10 27 (cT_ 10 6).1 (cT_ 10 6).2.1 (cT_ 10 6).2.2.1 ∈ G_ := G_2 (i := 185) rfl rfl
theorem fl_RX10_31 : Cond.fieldLink RX10 31 (cT_ 10 7).1 (cT_ 10 7).2.1 (cT_ 10 7).2.2.1 ∈ G_ := G_2 (i := 186) rfl rfl
theorem fl_RX10_35 : Cond.fieldLink RX10 35 (cT_ 10 8).1 (cT_ 10 8).2.1 (cT_ 10 8).2.2.1 ∈ G_ := G_2 (i := 187) rfl rfl
theorem fl_RX10_41 : Cond.fieldLink RX10 41 (cT_ 10 9).1 (cT_ 10 9).2.1 (cT_ 10 9).2.2.1 ∈ G_ := G_2 (i := 188) rfl rfl
theorem ml_RX11_80 : Cond.methodLink RX11 80 yX2_init ∈ G_ := G_2 (i := 212) rfl rfl
theorem fl_RX2_11 : Cond.fieldLink RX2 11 (cT_ 2 0).1 (cT_ 2 0).2.1 (cT_ 2 0).2.2.1 ∈ G_ := G_2 (i := 217) rfl rfl
theorem fl_RX11_287 : Cond.fieldLink RX11 287 (cT_ 2 0).1 (cT_ 2 0).2.1 (cT_ 2 0).2.2.1 ∈ G_ := G_2 (i := 218) rfl rfl
theorem fl_RX2_15 : Cond.fieldLink RX2 15 (cT_ 2 1).1 (cT_ 2 1).2.1 (cT_ 2 1).2.2.1 ∈ G_ := G_2 (i := 219) rfl rfl
theorem fl_RX11_284 : Cond.fieldLink RX11 284 (cT_ 2 1).1 (cT_ 2 1).2.1 (cT_ 2 1).2.2.1 ∈ G_ := G_2 (i := 220) rfl rfl
theorem fl_RX2_19 : Cond.fieldLink RX2 19 (cT_ 2 2).1 (cT_ 2 2).2.1 (cT_ 2 2).2.2.1 ∈ G_ := G_2 (i := 221) rfl rfl
theorem fl_RX11_298 : Cond.fieldLink RX11 298 (cT_ 2 2).1 (cT_ 2 2).2.1 (cT_ 2 2).2.2.1 ∈ G_ := G_2 (i := 222) rfl rfl
theorem fl_RX2_24 : Cond.fieldLink RX2 24 (cT_ 2 3).1 (cT_ 2 3).2.1 (cT_ 2 3).2.2.1 ∈ G_ := G_2 (i := 223) rfl rfl
theorem fl_RX2_27 : Cond.fieldLink RX2 27 (cT_ 2 4).1 (cT_ 2 4).2.1 (cT_ 2 4).2.2.1 ∈ G_ := G_2 (i := 224) rfl rfl
theorem ml_RX11_87 : Cond.methodLink RX11 87 yX7_init ∈ G_ := G_2 (i := 238) rfl rfl
theorem fl_RX7_11 : Cond.fieldLink RX7 11 (cT_ 7 0).1 (cT_ 7 0).2.1 (cT_ 7 0).2.2.1 ∈ G_ := G_3 (i := 2) rfl rfl
theorem fl_RX11_305 : Cond.fieldLink RX11 305 (cT_ 7 0).1 (cT_ 7 0).2.1 (cT_ 7 0).2.2.1 ∈ G_ := G_3 (i := 3) rfl rfl
theorem fl_RX7_15 : Cond.fieldLink RX7 15 (cT_ 7 1).1 (cT_ 7 1).2.1 (cT_ 7 1).2.2.1 ∈ G_ := G_3 (i := 4) rfl rfl
theorem fl_RX11_304 : Cond.fieldLink RX11 304 (cT_ 7 1).1 (cT_ 7 1).2.1 (cT_ 7 1).2.2.1 ∈ G_ := G_3 (i := 5) rfl rfl
theorem fl_RX7_19 : Cond.fieldLink RX7 19 (cT_ 7 2).1 (cT_ 7 2).2.1 (cT_ 7 2).2.2.1 ∈ G_ := G_3 (i := 6) rfl rfl
theorem fl_RX7_22 : Cond.fieldLink RX7 22 (cT_ 7 3).1 (cT_ 7 3).2.1 (cT_ 7 3).2.2.1 ∈ G_ := G_3 (i := 7) rfl rfl
theorem fl_RX7_25 : Cond.fieldLink RX7 25 (cT_ 7 4).1 (cT_ 7 4).2.1 (cT_ 7 4).2.2.1 ∈ G_ := G_3 (i := 8) rfl rfl
theorem fl_RX7_29 : Cond.fieldLink RX7 29 (cT_ 7 5).1 (cT_ 7 5).2.1 (cT_ 7 5).2.2.1 ∈ G_ := G_3 (i := 9) rfl rfl
theorem fl_RX7_32 : Cond.fieldLink RX7 32 (cT_ 7 6).1 (cT_ 7 6).2.1 (cT_ 7 6).2.2.1 ∈ G_ := G_3 (i := 10) rfl rfl
theorem ml_RX11_94 : Cond.methodLink RX11 94 yX1_init ∈ G_ := G_3 (i := 28) rfl rfl
theorem fl_RX1_55 : Cond.fieldLink RX1 55 (cT_ 1 0).1 (cT_ 1 0).2.1 (cT_ 1 0).2.2.1 ∈ G_ := G_3 (i := 32) rfl rfl
theorem fl_RX11_310 : Cond.fieldLink RX11 310 (cT_ 1 0).1 (cT_ 1 0).2.1 (cT_ 1 0).2.2.1 ∈ G_ := G_3 (i := 33) rfl rfl
theorem fl_RX1_57 : Cond.fieldLink RX1 57 (cT_ 1 1).1 (cT_ 1 1).2.1 (cT_ 1 1).2.2.1 ∈ G_ := G_3 (i := 34) rfl rfl
theorem fl_RX11_312 : Cond.fieldLink RX11 312 (cT_ 1 1).1 (cT_ 1 1).2.1 (cT_ 1 1).2.2.1 ∈ G_ := G_3 (i := 35) rfl rfl
theorem fl_RX1_9 : Cond.fieldLink RX1 9 (cT_ 1 2).1 (cT_ 1 2).2.1 (cT_ 1 2).2.2.1 ∈ G_ := G_3 (i := 36) rfl rfl
theorem fl_RX11_334 : Cond.fieldLink RX11 334 (cT_ 1 2).1 (cT_ 1 2).2.1 (cT_ 1 2).2.2.1 ∈ G_ := G_3 (i := 37) rfl rfl
theorem fl_RX1_15 : Cond.fieldLink RX1 15 (cT_ 1 3).1 (cT_ 1 3).2.1 (cT_ 1 3).2.2.1 ∈ G_ := G_3 (i := 38) rfl rfl
theorem fl_RX1_19 : Cond.fieldLink RX1 19 (cT_ 1 4).1 (cT_ 1 4).2.1 (cT_ 1 4).2.2.1 ∈ G_ := G_3 (i := 39) rfl rfl
theorem fl_RX1_22 : Cond.fieldLink RX1 22 (cT_ 1 5).1 (cT_ 1 5).2.1 (cT_ 1 5).2.2.1 ∈ G_ := G_3 (i := 40) rfl rfl
theorem fl_RX1_25 : Cond.fieldLink RX1 25 (cT_ 1 6).1 (cT_ 1 6).2.1 (cT_ 1 6).2.2.1 ∈ G_ := G_3 (i := 41) rfl rfl
theorem fl_RX1_28 : Cond.fieldLink RX1 28 (cT_ 1 7).1 (cT_ 1 7).2.1 (cT_ 1 7).2.2.1 ∈ G_ := G_3 (i := 42) rfl rfl
theorem fl_RX1_31 : Cond.fieldLink RX1 31 (cT_ 1 8).1 (cT_ 1 8).2.1 (cT_ 1 8).2.2.1 ∈ G_ := G_3 (i := 43) rfl rfl
theorem fl_RX1_60 : Cond.fieldLink RX1 60 (cT_ 1 9).1 (cT_ 1 9).2.1 (cT_ 1 9).2.2.1 ∈ G_ := G_3 (i := 44) rfl rfl
theorem fl_RX11_10 : Cond.fieldLink RX11 10 (cT_ 11 0).1 (cT_ 11 0).2.1 (cT_ 11 0).2.2.1 ∈ G_ := G_3 (i := 69) rfl rfl
theorem fl_RX11_51 : Cond.fieldLink RX11 51 (cT_ 11 1).1 (cT_ 11 1).2.1 (cT_ 11 1).2.2.1 ∈ G_ := G_3 (i := 70) rfl rfl
theorem fl_RX11_60 : Cond.fieldLink RX11 60 (cT_ 11 2).1 (cT_ 11 2).2.1 (cT_ 11 2).2.2.1 ∈ G_ := G_3 (i := 71) rfl rfl
theorem fl_RX11_67 : Cond.fieldLink RX11 67 (cT_ 11 3).1 (cT_ 11 3).2.1 (cT_ 11 3).2.2.1 ∈ G_ := G_3 (i := 72) rfl rfl
theorem fl_RX11_74 : Cond.fieldLink RX11 74 (cT_ 11 4).1 (cT_ 11 4).2.1 (cT_ 11 4).2.2.1 ∈ G_ := G_3 (i := 73) rfl rfl
theorem fl_RX11_81 : Cond.fieldLink RX11 81 (cT_ 11 5).1 (cT_ 11 5).2.1 (cT_ 11 5).2.2.1 ∈ G_ := G_3 (i := 74) rfl rfl
theorem fl_RX11_88 : Cond.fieldLink RX11 88 (cT_ 11 6).1 (cT_ 11 6).2.1 (cT_ 11 6).2.2.1 ∈ G_ := G_3 (i := 75) rfl rfl
theorem fl_RX11_95 : Cond.fieldLink RX11 95 (cT_ 11 7).1 (cT_ 11 7).2.1 (cT_ 11 7).2.2.1 ∈ G_ := G_3 (i := 76) rfl rfl
theorem fl_RX11_99 : Cond.fieldLink RX11 99 (cT_ 11 8).1 (cT_ 11 8).2.1 (cT_ 11 8).2.2.1 ∈ G_ := G_3 (i := 77) rfl rfl
theorem fl_RX11_103 : Cond.fieldLink RX11 103 (cT_ 11 9).1 (cT_ 11 9).2.1 (cT_ 11 9).2.2.1 ∈ G_ := G_3 (i := 78) rfl rfl
theorem fl_RX11_107 : Cond.fieldLink RX11 107 (cT_ 11 10).1 (cT_ 11 10).2.1 (cT_ 11 10).2.2.1 ∈ G_ := G_3 (i := 79) rfl rfl
theorem fl_RX11_111 : Cond.fieldLink RX11 111 (cT_ 11 11).1 (cT_ 11 11).2.1 (cT_ 11 11).2.2.1 ∈ G_ := G_3 (i := 80) rfl rfl
theorem fl_RX11_19 : Cond.fieldLink RX11 19 (cT_ 11 12).1 (cT_ 11 12).2.1 (cT_ 11 12).2.2.1 ∈ G_ := G_3 (i := 81) rfl rfl
theorem fl_RX11_23 : Cond.fieldLink RX11 23 (cT_ 11 13).1 (cT_ 11 13).2.1 (cT_ 11 13).2.2.1 ∈ G_ := G_3 (i := 82) rfl rfl
theorem fl_RX11_29 : Cond.fieldLink RX11 29 (cT_ 11 14).1 (cT_ 11 14).2.1 (cT_ 11 14).2.2.1 ∈ G_ := G_3 (i := 83) rfl rfl
theorem fl_RX11_33 : Cond.fieldLink RX11 33 (cT_ 11 15).1 (cT_ 11 15).2.1 (cT_ 11 15).2.2.1 ∈ G_ := G_3 (i := 84) rfl rfl
theorem fl_RX11_39 : Cond.fieldLink RX11 39 (cT_ 11 16).1 (cT_ 11 16).2.1 (cT_ 11 16).2.2.1 ∈ G_ := G_3 (i := 85) rfl rfl
theorem fl_RX11_43 : Cond.fieldLink RX11 43 (cT_ 11 17).1 (cT_ 11 17).2.1 (cT_ 11 17).2.2.1 ∈ G_ := G_3 (i := 86) rfl rfl
theorem fl_RX11_115 : Cond.fieldLink RX11 115 (cT_ 11 18).1 (cT_ 11 18).2.1 (cT_ 11 18).2.2.1 ∈ G_ := G_3 (i := 87) rfl rfl
theorem fl_RX11_119 : Cond.fieldLink RX11 119 (cT_ 11 19).1 (cT_ 11 19).2.1 (cT_ 11 19).2.2.1 ∈ G_ := G_3 (i := 88) rfl rfl
theorem ml_RL_25 : Cond.methodLink RL 25 yX11_feed ∈ G_ := G_3 (i := 131) rfl rfl
theorem ml_RX11_123 : Cond.methodLink RX11 123 yX8_hasRoom ∈ G_ := G_3 (i := 135) rfl rfl
theorem ml_RX11_127 : Cond.methodLink RX11 127 yX8_append ∈ G_ := G_3 (i := 139) rfl rfl
theorem ml_RL_30 : Cond.methodLink RL 30 yX11_end ∈ G_ := G_3 (i := 143) rfl rfl
theorem ml_RL_35 : Cond.methodLink RL 35 yX11_book ∈ G_ := G_3 (i := 147) rfl rfl
theorem ml_RX11_134 : Cond.methodLink RX11 134 yX8_start ∈ G_ := G_3 (i := 151) rfl rfl
theorem ml_RX8_50 : Cond.methodLink RX8 50 yX8_next ∈ G_ := G_3 (i := 155) rfl rfl
theorem ml_RX8_59 : Cond.methodLink RX8 59 yX8_isSign ∈ G_ := G_3 (i := 159) rfl rfl
theorem ml_RX8_63 : Cond.methodLink RX8 63 yX8_nextWordOrNumber ∈ G_ := G_3 (i := 162) rfl rfl
theorem ml_RX11_137 : Cond.methodLink RX11 137 yX0_readFrom ∈ G_ := G_3 (i := 166) rfl rfl
theorem ml_RX0_92 : Cond.methodLink RX0 92 yX0_readChap ∈ G_ := G_3 (i := 170) rfl rfl
theorem ml_RX0_105 : Cond.methodLink RX0 105 yX8_fail ∈ G_ := G_3 (i := 174) rfl rfl
theorem ml_RX0_112 : Cond.methodLink RX0 112 yX8_next ∈ G_ := G_3 (i := 178) rfl rfl
theorem ml_RX0_115 : Cond.methodLink RX0 115 yX0_takeNewName ∈ G_ := G_3 (i := 179) rfl rfl
theorem ml_RX0_132 : Cond.methodLink RX0 132 yX0_chapNamed ∈ G_ := G_3 (i := 183) rfl rfl
theorem ml_RX0_83 : Cond.methodLink RX0 83 yX0_placeOf ∈ G_ := G_3 (i := 187) rfl rfl
theorem ml_RX0_144 : Cond.methodLink RX0 144 yX0_readerNamed ∈ G_ := G_3 (i := 190) rfl rfl
theorem ml_RX0_109 : Cond.methodLink RX0 109 yX8_take ∈ G_ := G_3 (i := 194) rfl rfl
theorem ml_RX8_69 : Cond.methodLink RX8 69 yX8_fail ∈ G_ := G_3 (i := 198) rfl rfl
theorem ml_RX0_121 : Cond.methodLink RX0 121 yX8_takeNumber ∈ G_ := G_3 (i := 199) rfl rfl
theorem ml_RX0_125 : Cond.methodLink RX0 125 yX0_readLeanings ∈ G_ := G_3 (i := 203) rfl rfl
theorem ml_RX0_136 : Cond.methodLink RX0 136 yX8_takeChap ∈ G_ := G_3 (i := 207) rfl rfl
theorem ml_RX8_75 : Cond.methodLink RX8 75 yX0_chapNamed ∈ G_ := G_3 (i := 211) rfl rfl
theorem ml_RX0_96 : Cond.methodLink RX0 96 yX0_readReader ∈ G_ := G_3 (i := 212) rfl rfl
theorem ml_RX0_140 : Cond.methodLink RX0 140 yX0_takeInto ∈ G_ := G_3 (i := 216) rfl rfl
theorem ml_RX0_99 : Cond.methodLink RX0 99 yX0_readSpeed ∈ G_ := G_3 (i := 219) rfl rfl
theorem ml_RX0_102 : Cond.methodLink RX0 102 yX0_readAgain ∈ G_ := G_3 (i := 223) rfl rfl
theorem ml_RX11_141 : Cond.methodLink RX11 141 yX8_faultAnswer ∈ G_ := G_3 (i := 227) rfl rfl
theorem ml_RX11_145 : Cond.methodLink RX11 145 yX6_clear ∈ G_ := G_3 (i := 231) rfl rfl
theorem ml_RX11_148 : Cond.methodLink RX11 148 yX9_clear ∈ G_ := G_3 (i := 235) rfl rfl
theorem ml_RL_40 : Cond.methodLink RL 40 yX11_fault ∈ G_ := G_3 (i := 239) rfl rfl
theorem ml_RL_53 : Cond.methodLink RL 53 yX11_leans ∈ G_ := G_4 (i := 3) rfl rfl
theorem ml_RX11_155 : Cond.methodLink RX11 155 yX0_hasChap ∈ G_ := G_4 (i := 7) rfl rfl
theorem ml_RL_60 : Cond.methodLink RL 60 yX11_plan ∈ G_ := G_4 (i := 11) rfl rfl
theorem ml_RX11_197 : Cond.methodLink RX11 197 yX6_readFrom ∈ G_ := G_4 (i := 15) rfl rfl
theorem ml_RX6_38 : Cond.methodLink RX6 38 yX6_clear ∈ G_ := G_4 (i := 19) rfl rfl
theorem ml_RX6_46 : Cond.methodLink RX6 46 yX6_readAct ∈ G_ := G_4 (i := 20) rfl rfl
theorem ml_RX6_54 : Cond.methodLink RX6 54 yX8_fail ∈ G_ := G_4 (i := 24) rfl rfl
theorem ml_RX6_60 : Cond.methodLink RX6 60 yX0_readerNamed ∈ G_ := G_4 (i := 25) rfl rfl
theorem ml_RX6_64 : Cond.methodLink RX6 64 yX8_next ∈ G_ := G_4 (i := 26) rfl rfl
theorem ml_RX6_67 : Cond.methodLink RX6 67 yX6_readReading ∈ G_ := G_4 (i := 27) rfl rfl
theorem ml_RX6_50 : Cond.methodLink RX6 50 yX8_take ∈ G_ := G_4 (i := 31) rfl rfl
theorem ml_RX6_74 : Cond.methodLink RX6 74 yX8_takeChap ∈ G_ := G_4 (i := 32) rfl rfl
theorem ml_RX6_81 : Cond.methodLink RX6 81 yX6_add ∈ G_ := G_4 (i := 33) rfl rfl
theorem ml_RX6_34 : Cond.methodLink RX6 34 yX6_isFull ∈ G_ := G_4 (i := 37) rfl rfl
theorem ml_RX6_71 : Cond.methodLink RX6 71 yX6_readTelling ∈ G_ := G_4 (i := 41) rfl rfl
theorem ml_RX6_85 : Cond.methodLink RX6 85 yX8_takeNumber ∈ G_ := G_4 (i := 45) rfl rfl
theorem ml_RX6_89 : Cond.methodLink RX6 89 yX6_readListeners ∈ G_ := G_4 (i := 46) rfl rfl
theorem ml_RL_64 : Cond.methodLink RL 64 yX11_make ∈ G_ := G_4 (i := 49) rfl rfl
theorem ml_RX11_203 : Cond.methodLink RX11 203 yX4_isKind ∈ G_ := G_4 (i := 53) rfl rfl
theorem ml_RX11_207 : Cond.methodLink RX11 207 yX4_begin ∈ G_ := G_4 (i := 56) rfl rfl
theorem ml_RX4_32 : Cond.methodLink RX4 32 yX6_clear ∈ G_ := G_4 (i := 60) rfl rfl
theorem ml_RX4_37 : Cond.methodLink RX4 37 yX5_begin ∈ G_ := G_4 (i := 61) rfl rfl
theorem ml_RX11_210 : Cond.methodLink RX11 210 yX4_fill ∈ G_ := G_4 (i := 65) rfl rfl
theorem ml_RX4_40 : Cond.methodLink RX4 40 yX4_addParts ∈ G_ := G_4 (i := 69) rfl rfl
theorem ml_RX4_84 : Cond.methodLink RX4 84 yX4_findParts ∈ G_ := G_4 (i := 73) rfl rfl
theorem ml_RX4_99 : Cond.methodLink RX4 99 yX4_join ∈ G_ := G_4 (i := 77) rfl rfl
theorem ml_RX4_102 : Cond.methodLink RX4 102 yJ9_min_7cf53 ∈ G_ := G_4 (i := 81) rfl rfl
theorem ml_RX4_87 : Cond.methodLink RX4 87 yX4_mostLeft ∈ G_ := G_4 (i := 84) rfl rfl
theorem ml_RX4_91 : Cond.methodLink RX4 91 yX4_readPart ∈ G_ := G_4 (i := 88) rfl rfl
theorem ml_RX4_80 : Cond.methodLink RX4 80 yX4_tryAct ∈ G_ := G_4 (i := 92) rfl rfl
theorem ml_RX4_56 : Cond.methodLink RX4 56 yX6_isFull ∈ G_ := G_4 (i := 96) rfl rfl
theorem ml_RX4_60 : Cond.methodLink RX4 60 yX5_wrongOf ∈ G_ := G_4 (i := 97) rfl rfl
theorem ml_RX5_68 : Cond.methodLink RX5 68 yX0_readTime ∈ G_ := G_4 (i := 101) rfl rfl
theorem ml_RX0_147 : Cond.methodLink RX0 147 yX0_cutUp ∈ G_ := G_4 (i := 105) rfl rfl
theorem ml_RX5_72 : Cond.methodLink RX5 72 yX0_tellTime ∈ G_ := G_4 (i := 108) rfl rfl
theorem ml_RX5_75 : Cond.methodLink RX5 75 yX5_withTime ∈ G_ := G_4 (i := 112) rfl rfl
theorem ml_RX4_64 : Cond.methodLink RX4 64 yX5_perform ∈ G_ := G_4 (i := 116) rfl rfl
theorem ml_RX5_79 : Cond.methodLink RX5 79 yX5_partsIfRead ∈ G_ := G_4 (i := 120) rfl rfl
theorem ml_RX5_84 : Cond.methodLink RX5 84 yX0_lackAt ∈ G_ := G_4 (i := 124) rfl rfl
theorem kk_RX0_151 : Cond.constant RX0 151 (1000000) ∈ G_ := G_4 (i := 128) rfl rfl
theorem ml_RX5_88 : Cond.methodLink RX5 88 yX0_partsRead ∈ G_ := G_4 (i := 129) rfl rfl
theorem ml_RX5_91 : Cond.methodLink RX5 91 yJ9_max_7cf53 ∈ G_ := G_4 (i := 133) rfl rfl
theorem ml_RX5_82 : Cond.methodLink RX5 82 yX5_hear ∈ G_ := G_4 (i := 136) rfl rfl
theorem ml_RX5_96 : Cond.methodLink RX5 96 yX0_partsTold ∈ G_ := G_4 (i := 140) rfl rfl
theorem ml_RX5_99 : Cond.methodLink RX5 99 yX0_retold ∈ G_ := G_4 (i := 144) rfl rfl
theorem kk_RX5_102 : Cond.constant RX5 102 (1000000) ∈ G_ := G_4 (i := 148) rfl rfl
theorem ml_RX5_103 : Cond.methodLink RX5 103 yX0_ofMillion ∈ G_ := G_4 (i := 149) rfl rfl
theorem kk_RX0_152 : Cond.constantLong RX0 152 (1000000) ∈ G_ := G_4 (i := 152) rfl rfl
theorem ml_RX4_68 : Cond.methodLink RX4 68 yX6_add ∈ G_ := G_4 (i := 153) rfl rfl
theorem ml_RX4_44 : Cond.methodLink RX4 44 yX4_addRows ∈ G_ := G_4 (i := 154) rfl rfl
theorem ml_RX4_47 : Cond.methodLink RX4 47 yX4_addSecondReadings ∈ G_ := G_4 (i := 158) rfl rfl
theorem ml_RX4_111 : Cond.methodLink RX4 111 yX4_mostWorth ∈ G_ := G_4 (i := 162) rfl rfl
theorem ml_RX4_114 : Cond.methodLink RX4 114 yX4_readersOf ∈ G_ := G_4 (i := 166) rfl rfl
theorem ml_RX4_50 : Cond.methodLink RX4 50 yX4_addChains ∈ G_ := G_4 (i := 170) rfl rfl
theorem ml_RX4_123 : Cond.methodLink RX4 123 yX4_readerOf ∈ G_ := G_4 (i := 174) rfl rfl
theorem ml_RX4_53 : Cond.methodLink RX4 53 yX4_addRounds ∈ G_ := G_4 (i := 178) rfl rfl
theorem ml_RX4_126 : Cond.methodLink RX4 126 yX0_tellTime ∈ G_ := G_4 (i := 182) rfl rfl
theorem ml_RX4_129 : Cond.methodLink RX4 129 yX5_withTime ∈ G_ := G_4 (i := 183) rfl rfl
theorem ml_RL_68 : Cond.methodLink RL 68 yX11_drawn ∈ G_ := G_4 (i := 184) rfl rfl
theorem ml_RX11_220 : Cond.methodLink RX11 220 yX4_drawActs ∈ G_ := G_4 (i := 188) rfl rfl
theorem ml_RX4_135 : Cond.methodLink RX4 135 yX4_draw ∈ G_ := G_4 (i := 192) rfl rfl
theorem kk_RX4_138 : Cond.constant RX4 138 (1103515245) ∈ G_ := G_4 (i := 196) rfl rfl
theorem ml_RL_75 : Cond.methodLink RL 75 yX11_run ∈ G_ := G_4 (i := 197) rfl rfl
theorem ml_RX11_235 : Cond.methodLink RX11 235 yX11_runOnce ∈ G_ := G_4 (i := 201) rfl rfl
theorem ml_RX11_380 : Cond.methodLink RX11 380 yX5_begin ∈ G_ := G_4 (i := 205) rfl rfl
theorem ml_RX11_382 : Cond.methodLink RX11 382 yX5_follow ∈ G_ := G_4 (i := 206) rfl rfl
theorem ml_RX5_60 : Cond.methodLink RX5 60 yX5_wrongOf ∈ G_ := G_4 (i := 210) rfl rfl
theorem ml_RX5_64 : Cond.methodLink RX5 64 yX5_perform ∈ G_ := G_4 (i := 211) rfl rfl
theorem ml_RL_79 : Cond.methodLink RL 79 yX11_why ∈ G_ := G_4 (i := 212) rfl rfl
theorem ml_RL_83 : Cond.methodLink RL 83 yX11_known ∈ G_ := G_4 (i := 216) rfl rfl
theorem ml_RX11_179 : Cond.methodLink RX11 179 yX0_hasReader ∈ G_ := G_4 (i := 220) rfl rfl
theorem ml_RL_87 : Cond.methodLink RL 87 yX11_after ∈ G_ := G_4 (i := 224) rfl rfl
theorem ml_RX11_250 : Cond.methodLink RX11 250 yX5_inAll ∈ G_ := G_4 (i := 228) rfl rfl
theorem ml_RL_91 : Cond.methodLink RL 91 yX11_all ∈ G_ := G_4 (i := 232) rfl rfl
theorem ml_RX11_259 : Cond.methodLink RX11 259 yX5_sum ∈ G_ := G_4 (i := 236) rfl rfl
theorem ml_RX5_112 : Cond.methodLink RX5 112 yX5_inAll ∈ G_ := G_5 (i := 0) rfl rfl
theorem ml_RX11_262 : Cond.methodLink RX11 262 yX5_sent ∈ G_ := G_5 (i := 1) rfl rfl
theorem ml_RX11_265 : Cond.methodLink RX11 265 yX5_unreadMusts ∈ G_ := G_5 (i := 5) rfl rfl
theorem ml_RX11_268 : Cond.methodLink RX11 268 yX5_lacking ∈ G_ := G_5 (i := 9) rfl rfl
theorem kk_RX5_118 : Cond.constant RX5 118 (500000) ∈ G_ := G_5 (i := 13) rfl rfl
theorem ml_RL_96 : Cond.methodLink RL 96 yX11_best ∈ G_ := G_5 (i := 14) rfl rfl
theorem ml_RX11_271 : Cond.methodLink RX11 271 yX10_search ∈ G_ := G_5 (i := 18) rfl rfl
theorem ml_RX10_49 : Cond.methodLink RX10 49 yX10_tryFrom ∈ G_ := G_5 (i := 22) rfl rfl
theorem ml_RX10_53 : Cond.methodLink RX10 53 yX0_copyRow ∈ G_ := G_5 (i := 26) rfl rfl
theorem ml_RX0_77 : Cond.methodLink RX0 77 arraycopyName ∈ G_ := G_5 (i := 29) rfl rfl
theorem ac_native : Cond.native arraycopyName ∈ G_ := G_5 (i := 31) rfl rfl
theorem ac_static : Cond.static arraycopyName ∈ G_ := G_5 (i := 30) rfl rfl
theorem ac_ini : Cond.initialized "java/lang/System" ∈ G_ := G_1 (i := 23) rfl rfl
theorem ml_RX10_57 : Cond.methodLink RX10 57 yX10_mostOfRest ∈ G_ := G_5 (i := 32) rfl rfl
theorem ml_RX10_61 : Cond.methodLink RX10 61 yX0_readTime ∈ G_ := G_5 (i := 36) rfl rfl
theorem ml_RX10_65 : Cond.methodLink RX10 65 yX10_worthIfReadBy ∈ G_ := G_5 (i := 37) rfl rfl
theorem ml_RX10_71 : Cond.methodLink RX10 71 yX0_lackAt ∈ G_ := G_5 (i := 41) rfl rfl
theorem ml_RX10_75 : Cond.methodLink RX10 75 yX0_partsRead ∈ G_ := G_5 (i := 42) rfl rfl
theorem ml_RX10_78 : Cond.methodLink RX10 78 yX0_partsTold ∈ G_ := G_5 (i := 43) rfl rfl
theorem kk_RX10_82 : Cond.constant RX10 82 (1000000) ∈ G_ := G_5 (i := 44) rfl rfl
theorem ml_RX10_83 : Cond.methodLink RX10 83 yX0_ofMillion ∈ G_ := G_5 (i := 45) rfl rfl
theorem ml_RL_100 : Cond.methodLink RL 100 yX11_bestOf ∈ G_ := G_5 (i := 46) rfl rfl
theorem ml_RL_104 : Cond.methodLink RL 104 yX11_cut ∈ G_ := G_5 (i := 50) rfl rfl
theorem ml_RX11_281 : Cond.methodLink RX11 281 yX2_stretch ∈ G_ := G_5 (i := 54) rfl rfl
theorem kk_RX2_35 : Cond.constant RX2 35 (1000000) ∈ G_ := G_5 (i := 58) rfl rfl
theorem ml_RX2_36 : Cond.methodLink RX2 36 yX2_chooseEnds ∈ G_ := G_5 (i := 59) rfl rfl
theorem ml_RL_108 : Cond.methodLink RL 108 yX11_cutAt ∈ G_ := G_5 (i := 63) rfl rfl
theorem ml_RL_112 : Cond.methodLink RL 112 yX11_net ∈ G_ := G_5 (i := 67) rfl rfl
theorem ml_RX11_290 : Cond.methodLink RX11 290 yX8_areUnlike ∈ G_ := G_5 (i := 71) rfl rfl
theorem ml_RX8_34 : Cond.methodLink RX8 34 yX8_byteAt ∈ G_ := G_5 (i := 75) rfl rfl
theorem ml_RX11_294 : Cond.methodLink RX11 294 yX2_divide ∈ G_ := G_5 (i := 79) rfl rfl
theorem ml_RX2_46 : Cond.methodLink RX2 46 yX2_sidesFit ∈ G_ := G_5 (i := 83) rfl rfl
theorem ml_RX2_54 : Cond.methodLink RX2 54 yX8_byteAt ∈ G_ := G_5 (i := 86) rfl rfl
theorem ml_RX2_50 : Cond.methodLink RX2 50 yX2_overSides ∈ G_ := G_5 (i := 87) rfl rfl
theorem ml_RL_116 : Cond.methodLink RL 116 yX11_netSide ∈ G_ := G_5 (i := 90) rfl rfl
theorem ml_RL_120 : Cond.methodLink RL 120 yX11_chain ∈ G_ := G_5 (i := 94) rfl rfl
theorem ml_RX11_301 : Cond.methodLink RX11 301 yX7_search ∈ G_ := G_5 (i := 98) rfl rfl
theorem ml_RX7_35 : Cond.methodLink RX7 35 yX8_byteAt ∈ G_ := G_5 (i := 102) rfl rfl
theorem kk_RX7_41 : Cond.constant RX7 41 (1000000) ∈ G_ := G_5 (i := 103) rfl rfl
theorem ml_RX7_42 : Cond.methodLink RX7 42 yX7_tryFrom ∈ G_ := G_5 (i := 104) rfl rfl
theorem ml_RX7_46 : Cond.methodLink RX7 46 yX0_copyRow ∈ G_ := G_5 (i := 108) rfl rfl
theorem ml_RX7_52 : Cond.methodLink RX7 52 yX0_partsTold ∈ G_ := G_5 (i := 109) rfl rfl
theorem ml_RX7_56 : Cond.methodLink RX7 56 yX0_retold ∈ G_ := G_5 (i := 110) rfl rfl
theorem ml_RL_124 : Cond.methodLink RL 124 yX11_chainAt ∈ G_ := G_5 (i := 111) rfl rfl
theorem ml_RL_128 : Cond.methodLink RL 128 yX11_alone ∈ G_ := G_5 (i := 115) rfl rfl
theorem ml_RX11_306 : Cond.methodLink RX11 306 yX1_readAlone ∈ G_ := G_5 (i := 119) rfl rfl
theorem ml_RX1_40 : Cond.methodLink RX1 40 yJ9_min_7cf53 ∈ G_ := G_5 (i := 123) rfl rfl
theorem ml_RX1_49 : Cond.methodLink RX1 49 yX0_readTime ∈ G_ := G_5 (i := 124) rfl rfl
theorem ml_RL_132 : Cond.methodLink RL 132 yX11_leave ∈ G_ := G_5 (i := 125) rfl rfl
theorem ml_RX11_315 : Cond.methodLink RX11 315 yX1_leaveOut ∈ G_ := G_5 (i := 129) rfl rfl
theorem ml_RX1_73 : Cond.methodLink RX1 73 yX1_tryLeaving ∈ G_ := G_5 (i := 133) rfl rfl
theorem ml_RL_136 : Cond.methodLink RL 136 yX11_extra ∈ G_ := G_5 (i := 137) rfl rfl
theorem ml_RX11_318 : Cond.methodLink RX11 318 yX5_findExtra ∈ G_ := G_5 (i := 141) rfl rfl
theorem ml_RX5_128 : Cond.methodLink RX5 128 yX5_offerExtra ∈ G_ := G_5 (i := 145) rfl rfl
theorem ml_RL_140 : Cond.methodLink RL 140 yX11_ask ∈ G_ := G_5 (i := 149) rfl rfl
theorem ml_RX11_330 : Cond.methodLink RX11 330 yX1_askFewest ∈ G_ := G_5 (i := 153) rfl rfl
theorem ml_RX1_77 : Cond.methodLink RX1 77 yX1_readQuestions ∈ G_ := G_5 (i := 157) rfl rfl
theorem ml_RX1_87 : Cond.methodLink RX1 87 yX8_byteAt ∈ G_ := G_5 (i := 161) rfl rfl
theorem ml_RX1_81 : Cond.methodLink RX1 81 yJ6_bitCount_0f7a4 ∈ G_ := G_5 (i := 162) rfl rfl
theorem kk_RJ6_265 : Cond.constant RJ6 265 (1431655765) ∈ G_ := G_5 (i := 165) rfl rfl
theorem kk_RJ6_266 : Cond.constant RJ6 266 (858993459) ∈ G_ := G_5 (i := 166) rfl rfl
theorem kk_RJ6_267 : Cond.constant RJ6 267 (252645135) ∈ G_ := G_5 (i := 167) rfl rfl
theorem ml_RL_144 : Cond.methodLink RL 144 yX11_asked ∈ G_ := G_5 (i := 168) rfl rfl
theorem ml_RL_148 : Cond.methodLink RL 148 yX11_seen ∈ G_ := G_5 (i := 172) rfl rfl
theorem kk_RX11_337 : Cond.constant RX11 337 (1000000) ∈ G_ := G_5 (i := 176) rfl rfl
theorem kk_RX11_338 : Cond.constantLong RX11 338 (1000000000000000) ∈ G_ := G_5 (i := 177) rfl rfl
theorem kk_RX11_340 : Cond.constantLong RX11 340 (10) ∈ G_ := G_5 (i := 178) rfl rfl
theorem ml_RL_152 : Cond.methodLink RL 152 yX11_ill ∈ G_ := G_5 (i := 179) rfl rfl
theorem ml_RX11_342 : Cond.methodLink RX11 342 yX3_fall ∈ G_ := G_5 (i := 183) rfl rfl
theorem ml_RX3_26 : Cond.methodLink RX3 26 yX5_begin ∈ G_ := G_5 (i := 187) rfl rfl
theorem ml_RX3_48 : Cond.methodLink RX3 48 yX3_tryAct ∈ G_ := G_5 (i := 188) rfl rfl
theorem ml_RX3_76 : Cond.methodLink RX3 76 yX5_wrongOf ∈ G_ := G_5 (i := 192) rfl rfl
theorem ml_RX3_80 : Cond.methodLink RX3 80 yX5_perform ∈ G_ := G_5 (i := 193) rfl rfl
theorem ml_RX3_52 : Cond.methodLink RX3 52 yX5_sum ∈ G_ := G_5 (i := 194) rfl rfl
theorem ml_RX3_69 : Cond.methodLink RX3 69 yX3_offerHelp ∈ G_ := G_5 (i := 195) rfl rfl
theorem ml_RX3_84 : Cond.methodLink RX3 84 yX5_inAll ∈ G_ := G_5 (i := 199) rfl rfl
theorem ml_RX3_88 : Cond.methodLink RX3 88 yX3_readMissed ∈ G_ := G_5 (i := 200) rfl rfl
theorem ml_RL_157 : Cond.methodLink RL 157 yX11_sentence ∈ G_ := G_5 (i := 204) rfl rfl
theorem ml_RX11_357 : Cond.methodLink RX11 357 yX9_readFrom ∈ G_ := G_5 (i := 208) rfl rfl
theorem ml_RX9_37 : Cond.methodLink RX9 37 yX9_clear ∈ G_ := G_5 (i := 212) rfl rfl
theorem ml_RX9_40 : Cond.methodLink RX9 40 yX9_readCond ∈ G_ := G_5 (i := 213) rfl rfl
theorem ml_RX9_53 : Cond.methodLink RX9 53 yX9_readOne ∈ G_ := G_5 (i := 217) rfl rfl
theorem ml_RX9_49 : Cond.methodLink RX9 49 yX8_fail ∈ G_ := G_5 (i := 221) rfl rfl
theorem ml_RX9_60 : Cond.methodLink RX9 60 yX8_next ∈ G_ := G_5 (i := 222) rfl rfl
theorem ml_RX9_63 : Cond.methodLink RX9 63 yX8_take ∈ G_ := G_5 (i := 223) rfl rfl
theorem ml_RX9_56 : Cond.methodLink RX9 56 yX9_add ∈ G_ := G_5 (i := 224) rfl rfl
theorem ml_RX9_66 : Cond.methodLink RX9 66 yX9_readAsking ∈ G_ := G_5 (i := 228) rfl rfl
theorem ml_RX9_69 : Cond.methodLink RX9 69 yX8_takeChap ∈ G_ := G_5 (i := 232) rfl rfl
theorem ml_RX9_76 : Cond.methodLink RX9 76 yX8_isComparison ∈ G_ := G_5 (i := 233) rfl rfl
theorem ml_RX9_79 : Cond.methodLink RX9 79 yX8_takeNumber ∈ G_ := G_5 (i := 236) rfl rfl
theorem ml_RL_161 : Cond.methodLink RL 161 yX11_said ∈ G_ := G_5 (i := 237) rfl rfl
theorem ml_RX11_361 : Cond.methodLink RX11 361 yX9_holds ∈ G_ := G_6 (i := 1) rfl rfl
theorem ml_RX9_83 : Cond.methodLink RX9 83 yX9_isSo ∈ G_ := G_6 (i := 5) rfl rfl
theorem ml_RX9_98 : Cond.methodLink RX9 98 yX9_compares ∈ G_ := G_6 (i := 9) rfl rfl
theorem ml_RX9_101 : Cond.methodLink RX9 101 yX5_inAll ∈ G_ := G_6 (i := 13) rfl rfl
theorem ml_RX9_108 : Cond.methodLink RX9 108 yJ6_bitCount_0f7a4 ∈ G_ := G_6 (i := 14) rfl rfl
theorem ml_RL_165 : Cond.methodLink RL 165 yX11_image ∈ G_ := G_6 (i := 15) rfl rfl
theorem ml_RX11_365 : Cond.methodLink RX11 365 yX0_copyFrom ∈ G_ := G_6 (i := 19) rfl rfl
theorem ml_RX0_73 : Cond.methodLink RX0 73 yX0_copyRow ∈ G_ := G_6 (i := 23) rfl rfl
theorem ml_RX11_368 : Cond.methodLink RX11 368 yX6_copyFrom ∈ G_ := G_6 (i := 24) rfl rfl
theorem ml_RX6_28 : Cond.methodLink RX6 28 yX0_copyRow ∈ G_ := G_6 (i := 28) rfl rfl
theorem ml_RX11_371 : Cond.methodLink RX11 371 yX9_copyFrom ∈ G_ := G_6 (i := 29) rfl rfl
theorem ml_RX9_31 : Cond.methodLink RX9 31 yX0_copyRow ∈ G_ := G_6 (i := 33) rfl rfl
theorem ml_RL_169 : Cond.methodLink RL 169 yX11_restore ∈ G_ := G_6 (i := 34) rfl rfl
theorem ml_RL_173 : Cond.methodLink RL 173 yX11_count ∈ G_ := G_6 (i := 38) rfl rfl
theorem ml_RL_44 : Cond.methodLink RL 44 yL_chap ∈ G_ := G_6 (i := 42) rfl rfl
theorem ml_RL_7 : Cond.methodLink RL 7 yX11_chap ∈ G_ := G_6 (i := 46) rfl rfl
theorem ml_RX11_171 : Cond.methodLink RX11 171 yX0_leansOnHowMany ∈ G_ := G_6 (i := 111) rfl rfl
theorem ml_RL_57 : Cond.methodLink RL 57 yL_reader ∈ G_ := G_6 (i := 115) rfl rfl
theorem ml_RL_15 : Cond.methodLink RL 15 yX11_reader ∈ G_ := G_6 (i := 118) rfl rfl
theorem ml_RL_72 : Cond.methodLink RL 72 yL_act ∈ G_ := G_6 (i := 122) rfl rfl
theorem ml_RL_18 : Cond.methodLink RL 18 yX11_act ∈ G_ := G_6 (i := 125) rfl rfl
theorem ml_RL_24 : Cond.methodLink RL 24 yX12_init ∈ G_ := G_6 (i := 131) rfl rfl
theorem fl_RX12_97 : Cond.fieldLink RX12 97 (cT_ 12 0).1 (cT_ 12 0).2.1 (cT_ 12 0).2.2.1 ∈ G_ := G_6 (i := 135) rfl rfl
theorem fl_RX12_7 : Cond.fieldLink RX12 7 (cT_ 12 1).1 (cT_ 12 1).2.1 (cT_ 12 1).2.2.1 ∈ G_ := G_6 (i := 136) rfl rfl
theorem fl_RX12_100 : Cond.fieldLink RX12 100 (cT_ 12 2).1 (cT_ 12 2).2.1 (cT_ 12 2).2.2.1 ∈ G_ := G_6 (i := 137) rfl rfl
theorem fl_RX12_107 : Cond.fieldLink RX12 107 (cT_ 12 3).1 (cT_ 12 3).2.1 (cT_ 12 3).2.2.1 ∈ G_ := G_6 (i := 138) rfl rfl
theorem fl_RX12_116 : Cond.fieldLink RX12 116 (cT_ 12 4).1 (cT_ 12 4).2.1 (cT_ 12 4).2.2.1 ∈ G_ := G_6 (i := 139) rfl rfl
theorem fl_RX12_110 : Cond.fieldLink RX12 110 (cT_ 12 5).1 (cT_ 12 5).2.1 (cT_ 12 5).2.2.1 ∈ G_ := G_6 (i := 140) rfl rfl
theorem fl_RX12_113 : Cond.fieldLink RX12 113 (cT_ 12 6).1 (cT_ 12 6).2.1 (cT_ 12 6).2.2.1 ∈ G_ := G_6 (i := 141) rfl rfl
theorem fl_RX12_119 : Cond.fieldLink RX12 119 (cT_ 12 7).1 (cT_ 12 7).2.1 (cT_ 12 7).2.2.1 ∈ G_ := G_6 (i := 142) rfl rfl
theorem fl_RX12_136 : Cond.fieldLink RX12 136 (cT_ 12 8).1 (cT_ 12 8).2.1 (cT_ 12 8).2.2.1 ∈ G_ := G_6 (i := 143) rfl rfl
theorem fl_RX12_129 : Cond.fieldLink RX12 129 (cT_ 12 9).1 (cT_ 12 9).2.1 (cT_ 12 9).2.2.1 ∈ G_ := G_6 (i := 144) rfl rfl
theorem fl_RX12_155 : Cond.fieldLink RX12 155 (cT_ 12 10).1 (cT_ 12 10).2.1 (cT_ 12 10).2.2.1 ∈ G_ := G_6 (i := 145) rfl rfl
theorem fl_RX12_158 : Cond.fieldLink RX12 158 (cT_ 12 11).1 (cT_ 12 11).2.1 (cT_ 12 11).2.2.1 ∈ G_ := G_6 (i := 146) rfl rfl
theorem fl_RX12_132 : Cond.fieldLink RX12 132 (cT_ 12 12).1 (cT_ 12 12).2.1 (cT_ 12 12).2.2.1 ∈ G_ := G_6 (i := 147) rfl rfl
theorem fl_RX12_168 : Cond.fieldLink RX12 168 (cT_ 12 13).1 (cT_ 12 13).2.1 (cT_ 12 13).2.2.1 ∈ G_ := G_6 (i := 148) rfl rfl
theorem fl_RX12_13 : Cond.fieldLink RX12 13 (cT_ 12 14).1 (cT_ 12 14).2.1 (cT_ 12 14).2.2.1 ∈ G_ := G_6 (i := 149) rfl rfl
theorem fl_RX12_16 : Cond.fieldLink RX12 16 (cT_ 12 15).1 (cT_ 12 15).2.1 (cT_ 12 15).2.2.1 ∈ G_ := G_6 (i := 150) rfl rfl
theorem fl_RX12_19 : Cond.fieldLink RX12 19 (cT_ 12 16).1 (cT_ 12 16).2.1 (cT_ 12 16).2.2.1 ∈ G_ := G_6 (i := 151) rfl rfl
theorem fl_RX12_22 : Cond.fieldLink RX12 22 (cT_ 12 17).1 (cT_ 12 17).2.1 (cT_ 12 17).2.2.1 ∈ G_ := G_6 (i := 152) rfl rfl
theorem fl_RX12_26 : Cond.fieldLink RX12 26 (cT_ 12 18).1 (cT_ 12 18).2.1 (cT_ 12 18).2.2.1 ∈ G_ := G_6 (i := 153) rfl rfl
theorem fl_RX12_29 : Cond.fieldLink RX12 29 (cT_ 12 19).1 (cT_ 12 19).2.1 (cT_ 12 19).2.2.1 ∈ G_ := G_6 (i := 154) rfl rfl
theorem fl_RX12_32 : Cond.fieldLink RX12 32 (cT_ 12 20).1 (cT_ 12 20).2.1 (cT_ 12 20).2.2.1 ∈ G_ := G_6 (i := 155) rfl rfl
theorem fl_RX12_184 : Cond.fieldLink RX12 184 (cT_ 12 21).1 (cT_ 12 21).2.1 (cT_ 12 21).2.2.1 ∈ G_ := G_6 (i := 156) rfl rfl
theorem fl_RX12_220 : Cond.fieldLink RX12 220 (cT_ 12 22).1 (cT_ 12 22).2.1 (cT_ 12 22).2.2.1 ∈ G_ := G_6 (i := 157) rfl rfl
theorem fl_RX12_36 : Cond.fieldLink RX12 36 (cT_ 12 23).1 (cT_ 12 23).2.1 (cT_ 12 23).2.2.1 ∈ G_ := G_6 (i := 158) rfl rfl
theorem fl_RX12_251 : Cond.fieldLink RX12 251 (cT_ 12 24).1 (cT_ 12 24).2.1 (cT_ 12 24).2.2.1 ∈ G_ := G_6 (i := 159) rfl rfl
theorem fl_RX12_39 : Cond.fieldLink RX12 39 (cT_ 12 25).1 (cT_ 12 25).2.1 (cT_ 12 25).2.2.1 ∈ G_ := G_6 (i := 160) rfl rfl
theorem fl_RX12_42 : Cond.fieldLink RX12 42 (cT_ 12 26).1 (cT_ 12 26).2.1 (cT_ 12 26).2.2.1 ∈ G_ := G_6 (i := 161) rfl rfl
theorem fl_RX12_45 : Cond.fieldLink RX12 45 (cT_ 12 27).1 (cT_ 12 27).2.1 (cT_ 12 27).2.2.1 ∈ G_ := G_6 (i := 162) rfl rfl
theorem fl_RX12_48 : Cond.fieldLink RX12 48 (cT_ 12 28).1 (cT_ 12 28).2.1 (cT_ 12 28).2.2.1 ∈ G_ := G_6 (i := 163) rfl rfl
theorem fl_RX12_303 : Cond.fieldLink RX12 303 (cT_ 12 29).1 (cT_ 12 29).2.1 (cT_ 12 29).2.2.1 ∈ G_ := G_6 (i := 164) rfl rfl
theorem fl_RX12_306 : Cond.fieldLink RX12 306 (cT_ 12 30).1 (cT_ 12 30).2.1 (cT_ 12 30).2.2.1 ∈ G_ := G_6 (i := 165) rfl rfl
theorem fl_RX12_322 : Cond.fieldLink RX12 322 (cT_ 12 31).1 (cT_ 12 31).2.1 (cT_ 12 31).2.2.1 ∈ G_ := G_6 (i := 166) rfl rfl
theorem fl_RX12_51 : Cond.fieldLink RX12 51 (cT_ 12 32).1 (cT_ 12 32).2.1 (cT_ 12 32).2.2.1 ∈ G_ := G_6 (i := 167) rfl rfl
theorem fl_RX12_352 : Cond.fieldLink RX12 352 (cT_ 12 33).1 (cT_ 12 33).2.1 (cT_ 12 33).2.2.1 ∈ G_ := G_6 (i := 168) rfl rfl
theorem fl_RX12_54 : Cond.fieldLink RX12 54 (cT_ 12 34).1 (cT_ 12 34).2.1 (cT_ 12 34).2.2.1 ∈ G_ := G_6 (i := 169) rfl rfl
theorem fl_RX12_57 : Cond.fieldLink RX12 57 (cT_ 12 35).1 (cT_ 12 35).2.1 (cT_ 12 35).2.2.1 ∈ G_ := G_6 (i := 170) rfl rfl
theorem fl_RX12_60 : Cond.fieldLink RX12 60 (cT_ 12 36).1 (cT_ 12 36).2.1 (cT_ 12 36).2.2.1 ∈ G_ := G_6 (i := 171) rfl rfl
theorem fl_RX12_368 : Cond.fieldLink RX12 368 (cT_ 12 37).1 (cT_ 12 37).2.1 (cT_ 12 37).2.2.1 ∈ G_ := G_6 (i := 172) rfl rfl
theorem fl_RX12_359 : Cond.fieldLink RX12 359 (cT_ 12 38).1 (cT_ 12 38).2.1 (cT_ 12 38).2.2.1 ∈ G_ := G_6 (i := 173) rfl rfl
theorem fl_RX12_362 : Cond.fieldLink RX12 362 (cT_ 12 39).1 (cT_ 12 39).2.1 (cT_ 12 39).2.2.1 ∈ G_ := G_6 (i := 174) rfl rfl
theorem fl_RX12_371 : Cond.fieldLink RX12 371 (cT_ 12 40).1 (cT_ 12 40).2.1 (cT_ 12 40).2.2.1 ∈ G_ := G_6 (i := 175) rfl rfl
theorem fl_RX12_63 : Cond.fieldLink RX12 63 (cT_ 12 41).1 (cT_ 12 41).2.1 (cT_ 12 41).2.2.1 ∈ G_ := G_6 (i := 176) rfl rfl
theorem fl_RX12_66 : Cond.fieldLink RX12 66 (cT_ 12 42).1 (cT_ 12 42).2.1 (cT_ 12 42).2.2.1 ∈ G_ := G_6 (i := 177) rfl rfl
theorem fl_RX12_387 : Cond.fieldLink RX12 387 (cT_ 12 43).1 (cT_ 12 43).2.1 (cT_ 12 43).2.2.1 ∈ G_ := G_6 (i := 178) rfl rfl
theorem fl_RX12_390 : Cond.fieldLink RX12 390 (cT_ 12 44).1 (cT_ 12 44).2.1 (cT_ 12 44).2.2.1 ∈ G_ := G_6 (i := 179) rfl rfl
theorem fl_RX12_377 : Cond.fieldLink RX12 377 (cT_ 12 45).1 (cT_ 12 45).2.1 (cT_ 12 45).2.2.1 ∈ G_ := G_6 (i := 180) rfl rfl
theorem fl_RX12_69 : Cond.fieldLink RX12 69 (cT_ 12 46).1 (cT_ 12 46).2.1 (cT_ 12 46).2.2.1 ∈ G_ := G_6 (i := 181) rfl rfl
theorem fl_RX12_72 : Cond.fieldLink RX12 72 (cT_ 12 47).1 (cT_ 12 47).2.1 (cT_ 12 47).2.2.1 ∈ G_ := G_6 (i := 182) rfl rfl
theorem fl_RX12_76 : Cond.fieldLink RX12 76 (cT_ 12 48).1 (cT_ 12 48).2.1 (cT_ 12 48).2.2.1 ∈ G_ := G_6 (i := 183) rfl rfl
theorem fl_RX12_79 : Cond.fieldLink RX12 79 (cT_ 12 49).1 (cT_ 12 49).2.1 (cT_ 12 49).2.2.1 ∈ G_ := G_6 (i := 184) rfl rfl
theorem fl_RX12_82 : Cond.fieldLink RX12 82 (cT_ 12 50).1 (cT_ 12 50).2.1 (cT_ 12 50).2.2.1 ∈ G_ := G_6 (i := 185) rfl rfl
theorem fl_RX12_85 : Cond.fieldLink RX12 85 (cT_ 12 51).1 (cT_ 12 51).2.1 (cT_ 12 51).2.2.1 ∈ G_ := G_6 (i := 186) rfl rfl
theorem fl_RX12_396 : Cond.fieldLink RX12 396 (cT_ 12 52).1 (cT_ 12 52).2.1 (cT_ 12 52).2.2.1 ∈ G_ := G_6 (i := 187) rfl rfl
theorem fl_RX12_402 : Cond.fieldLink RX12 402 (cT_ 12 53).1 (cT_ 12 53).2.1 (cT_ 12 53).2.2.1 ∈ G_ := G_6 (i := 188) rfl rfl
theorem fl_RX12_393 : Cond.fieldLink RX12 393 (cT_ 12 54).1 (cT_ 12 54).2.1 (cT_ 12 54).2.2.1 ∈ G_ := G_6 (i := 189) rfl rfl
theorem fl_RX12_88 : Cond.fieldLink RX12 88 (cT_ 12 55).1 (cT_ 12 55).2.1 (cT_ 12 55).2.2.1 ∈ G_ := G_6 (i := 190) rfl rfl
theorem fl_RX12_91 : Cond.fieldLink RX12 91 (cT_ 12 56).1 (cT_ 12 56).2.1 (cT_ 12 56).2.2.1 ∈ G_ := G_6 (i := 191) rfl rfl
theorem fl_RX12_418 : Cond.fieldLink RX12 418 (cT_ 12 57).1 (cT_ 12 57).2.1 (cT_ 12 57).2.2.1 ∈ G_ := G_6 (i := 192) rfl rfl
theorem fl_RX12_94 : Cond.fieldLink RX12 94 (cT_ 12 58).1 (cT_ 12 58).2.1 (cT_ 12 58).2.2.1 ∈ G_ := G_6 (i := 193) rfl rfl
theorem fl_RX12_427 : Cond.fieldLink RX12 427 (cT_ 12 59).1 (cT_ 12 59).2.1 (cT_ 12 59).2.2.1 ∈ G_ := G_6 (i := 194) rfl rfl
theorem fl_RX12_442 : Cond.fieldLink RX12 442 (cT_ 12 60).1 (cT_ 12 60).2.1 (cT_ 12 60).2.2.1 ∈ G_ := G_6 (i := 195) rfl rfl
theorem fl_RX12_445 : Cond.fieldLink RX12 445 (cT_ 12 61).1 (cT_ 12 61).2.1 (cT_ 12 61).2.2.1 ∈ G_ := G_6 (i := 196) rfl rfl
theorem fl_RX12_433 : Cond.fieldLink RX12 433 (cT_ 12 62).1 (cT_ 12 62).2.1 (cT_ 12 62).2.2.1 ∈ G_ := G_6 (i := 197) rfl rfl
theorem ml_RL_50 : Cond.methodLink RL 50 yX12_thrown ∈ G_ := G_7 (i := 86) rfl rfl
theorem ml_RL_29 : Cond.methodLink RL 29 yX12_feed ∈ G_ := G_7 (i := 90) rfl rfl
theorem ml_RX12_103 : Cond.methodLink RX12 103 yX12_come ∈ G_ := G_7 (i := 94) rfl rfl
theorem ml_RL_34 : Cond.methodLink RL 34 yX12_end ∈ G_ := G_7 (i := 98) rfl rfl
theorem ml_RL_39 : Cond.methodLink RL 39 yX12_book ∈ G_ := G_7 (i := 102) rfl rfl
theorem ml_RX12_226 : Cond.methodLink RX12 226 yX12_begin ∈ G_ := G_7 (i := 106) rfl rfl
theorem ml_RX12_177 : Cond.methodLink RX12 177 yX12_lay ∈ G_ := G_7 (i := 110) rfl rfl
theorem ml_RX12_180 : Cond.methodLink RX12 180 yX12_take ∈ G_ := G_7 (i := 114) rfl rfl
theorem ml_RX12_171 : Cond.methodLink RX12 171 yX12_go ∈ G_ := G_7 (i := 118) rfl rfl
theorem ml_RX12_122 : Cond.methodLink RX12 122 yX12_isLetter ∈ G_ := G_7 (i := 122) rfl rfl
theorem ml_RX12_126 : Cond.methodLink RX12 126 yX12_isDigit ∈ G_ := G_7 (i := 125) rfl rfl
theorem ml_RX12_139 : Cond.methodLink RX12 139 yX12_byteAt ∈ G_ := G_7 (i := 128) rfl rfl
theorem kk_RX12_143 : Cond.constantLong RX12 143 (27) ∈ G_ := G_7 (i := 132) rfl rfl
theorem kk_RX12_145 : Cond.constantLong RX12 145 (96) ∈ G_ := G_7 (i := 133) rfl rfl
theorem ml_RX12_229 : Cond.methodLink RX12 229 yX12_readLine ∈ G_ := G_7 (i := 134) rfl rfl
theorem ml_RX12_208 : Cond.methodLink RX12 208 yX12_isWord ∈ G_ := G_7 (i := 138) rfl rfl
theorem ml_RX12_151 : Cond.methodLink RX12 151 yX12_wordOf ∈ G_ := G_7 (i := 142) rfl rfl
theorem ml_RX12_147 : Cond.methodLink RX12 147 yX12_spelt ∈ G_ := G_7 (i := 145) rfl rfl
theorem ml_RX12_161 : Cond.methodLink RX12 161 yX12_bad ∈ G_ := G_7 (i := 148) rfl rfl
theorem ml_RX12_211 : Cond.methodLink RX12 211 yX12_readChap ∈ G_ := G_7 (i := 152) rfl rfl
theorem ml_RX12_201 : Cond.methodLink RX12 201 yX12_readNew ∈ G_ := G_7 (i := 156) rfl rfl
theorem ml_RX12_194 : Cond.methodLink RX12 194 yX12_isName ∈ G_ := G_7 (i := 160) rfl rfl
theorem ml_RX12_198 : Cond.methodLink RX12 198 yX12_findRead ∈ G_ := G_7 (i := 164) rfl rfl
theorem ml_RX12_204 : Cond.methodLink RX12 204 yX12_readNumber ∈ G_ := G_7 (i := 168) rfl rfl
theorem ml_RX12_164 : Cond.methodLink RX12 164 yX12_isIn ∈ G_ := G_7 (i := 172) rfl rfl
theorem ml_RX12_214 : Cond.methodLink RX12 214 yX12_readWho ∈ G_ := G_7 (i := 175) rfl rfl
theorem ml_RX12_217 : Cond.methodLink RX12 217 yX12_readEnd ∈ G_ := G_7 (i := 179) rfl rfl
theorem ml_RX12_174 : Cond.methodLink RX12 174 yX12_isSign ∈ G_ := G_7 (i := 183) rfl rfl
theorem ml_RX12_223 : Cond.methodLink RX12 223 yX12_has ∈ G_ := G_7 (i := 187) rfl rfl
theorem ml_RL_43 : Cond.methodLink RL 43 yX12_fault ∈ G_ := G_7 (i := 190) rfl rfl
theorem ml_RL_49 : Cond.methodLink RL 49 yX12_chap ∈ G_ := G_7 (i := 194) rfl rfl
theorem ml_RX12_232 : Cond.methodLink RX12 232 yX12_isChap ∈ G_ := G_7 (i := 198) rfl rfl
theorem ml_RX12_188 : Cond.methodLink RX12 188 yX12_chaps ∈ G_ := G_7 (i := 202) rfl rfl
theorem ml_RX12_235 : Cond.methodLink RX12 235 yX12_refuse ∈ G_ := G_7 (i := 206) rfl rfl
theorem ml_RX12_238 : Cond.methodLink RX12 238 yX12_chapOf ∈ G_ := G_7 (i := 210) rfl rfl
theorem ml_RX12_242 : Cond.methodLink RX12 242 yX12_leanOf ∈ G_ := G_7 (i := 214) rfl rfl
theorem ml_RL_56 : Cond.methodLink RL 56 yX12_leans ∈ G_ := G_7 (i := 218) rfl rfl
theorem ml_RL_59 : Cond.methodLink RL 59 yX12_reader ∈ G_ := G_7 (i := 222) rfl rfl
theorem ml_RX12_245 : Cond.methodLink RX12 245 yX12_isReader ∈ G_ := G_7 (i := 226) rfl rfl
theorem ml_RX12_191 : Cond.methodLink RX12 191 yX12_readers ∈ G_ := G_7 (i := 230) rfl rfl
theorem ml_RX12_248 : Cond.methodLink RX12 248 yX12_readerOf ∈ G_ := G_7 (i := 234) rfl rfl
theorem ml_RL_63 : Cond.methodLink RL 63 yX12_plan ∈ G_ := G_7 (i := 238) rfl rfl
theorem ml_RX12_267 : Cond.methodLink RX12 267 yX12_readAct ∈ G_ := G_8 (i := 2) rfl rfl
theorem ml_RX12_254 : Cond.methodLink RX12 254 yX12_named ∈ G_ := G_8 (i := 6) rfl rfl
theorem ml_RX12_257 : Cond.methodLink RX12 257 yX12_readNamed ∈ G_ := G_8 (i := 10) rfl rfl
theorem ml_RX12_260 : Cond.methodLink RX12 260 yX12_addAct ∈ G_ := G_8 (i := 14) rfl rfl
theorem ml_RX12_264 : Cond.methodLink RX12 264 yX12_readListeners ∈ G_ := G_8 (i := 18) rfl rfl
theorem ml_RX12_270 : Cond.methodLink RX12 270 yX12_plans ∈ G_ := G_8 (i := 22) rfl rfl
theorem ml_RL_74 : Cond.methodLink RL 74 yX12_act ∈ G_ := G_8 (i := 26) rfl rfl
theorem ml_RL_78 : Cond.methodLink RL 78 yX12_run ∈ G_ := G_8 (i := 30) rfl rfl
theorem ml_RX12_319 : Cond.methodLink RX12 319 yX12_night ∈ G_ := G_8 (i := 34) rfl rfl
theorem ml_RX12_300 : Cond.methodLink RX12 300 yX12_dawn ∈ G_ := G_8 (i := 38) rfl rfl
theorem ml_RX12_309 : Cond.methodLink RX12 309 yX12_wrong ∈ G_ := G_8 (i := 42) rfl rfl
theorem ml_RX12_277 : Cond.methodLink RX12 277 yX12_timeToRead ∈ G_ := G_8 (i := 46) rfl rfl
theorem ml_RX12_274 : Cond.methodLink RX12 274 yX12_up ∈ G_ := G_8 (i := 50) rfl rfl
theorem ml_RX12_289 : Cond.methodLink RX12 289 yX12_timeToTell ∈ G_ := G_8 (i := 53) rfl rfl
theorem ml_RX12_313 : Cond.methodLink RX12 313 yX12_does ∈ G_ := G_8 (i := 57) rfl rfl
theorem ml_RX12_292 : Cond.methodLink RX12 292 yX12_reads ∈ G_ := G_8 (i := 61) rfl rfl
theorem kk_RX12_273 : Cond.constant RX12 273 (1000000) ∈ G_ := G_8 (i := 65) rfl rfl
theorem ml_RX12_280 : Cond.methodLink RX12 280 yX12_lackOf ∈ G_ := G_8 (i := 66) rfl rfl
theorem ml_RX12_296 : Cond.methodLink RX12 296 yX12_gets ∈ G_ := G_8 (i := 70) rfl rfl
theorem ml_RX12_283 : Cond.methodLink RX12 283 yX12_given ∈ G_ := G_8 (i := 74) rfl rfl
theorem kk_RX12_287 : Cond.constantLong RX12 287 (1000000) ∈ G_ := G_8 (i := 78) rfl rfl
theorem ml_RL_82 : Cond.methodLink RL 82 yX12_why ∈ G_ := G_8 (i := 79) rfl rfl
theorem ml_RL_86 : Cond.methodLink RL 86 yX12_known ∈ G_ := G_8 (i := 83) rfl rfl
theorem ml_RL_90 : Cond.methodLink RL 90 yX12_after ∈ G_ := G_8 (i := 87) rfl rfl
theorem ml_RX12_316 : Cond.methodLink RX12 316 yX12_inAll ∈ G_ := G_8 (i := 91) rfl rfl
theorem ml_RL_95 : Cond.methodLink RL 95 yX12_all ∈ G_ := G_8 (i := 95) rfl rfl
theorem ml_RX12_325 : Cond.methodLink RX12 325 yX12_sum ∈ G_ := G_8 (i := 99) rfl rfl
theorem ml_RX12_328 : Cond.methodLink RX12 328 yX12_lacking ∈ G_ := G_8 (i := 103) rfl rfl
theorem ml_RL_67 : Cond.methodLink RL 67 yX12_make ∈ G_ := G_8 (i := 107) rfl rfl
theorem ml_RX12_337 : Cond.methodLink RX12 337 yX12_makeLean ∈ G_ := G_8 (i := 111) rfl rfl
theorem ml_RX12_334 : Cond.methodLink RX12 334 yX12_idlest ∈ G_ := G_8 (i := 115) rfl rfl
theorem ml_RX12_331 : Cond.methodLink RX12 331 yX12_tries ∈ G_ := G_8 (i := 119) rfl rfl
theorem ml_RX12_340 : Cond.methodLink RX12 340 yX12_makeRows ∈ G_ := G_8 (i := 123) rfl rfl
theorem ml_RX12_343 : Cond.methodLink RX12 343 yX12_makeTwice ∈ G_ := G_8 (i := 127) rfl rfl
theorem ml_RX12_346 : Cond.methodLink RX12 346 yX12_makeChain ∈ G_ := G_8 (i := 131) rfl rfl
theorem ml_RX12_349 : Cond.methodLink RX12 349 yX12_makeRound ∈ G_ := G_8 (i := 135) rfl rfl
theorem ml_RL_71 : Cond.methodLink RL 71 yX12_drawn ∈ G_ := G_8 (i := 139) rfl rfl
theorem ml_RX12_356 : Cond.methodLink RX12 356 yX12_draw ∈ G_ := G_8 (i := 143) rfl rfl
theorem kk_RX12_355 : Cond.constant RX12 355 (1103515245) ∈ G_ := G_8 (i := 147) rfl rfl
theorem ml_RL_99 : Cond.methodLink RL 99 yX12_best ∈ G_ := G_8 (i := 148) rfl rfl
theorem ml_RX12_365 : Cond.methodLink RX12 365 yX12_tryReaders ∈ G_ := G_8 (i := 152) rfl rfl
theorem ml_RL_103 : Cond.methodLink RL 103 yX12_bestOf ∈ G_ := G_8 (i := 156) rfl rfl
theorem ml_RL_107 : Cond.methodLink RL 107 yX12_cut ∈ G_ := G_8 (i := 160) rfl rfl
theorem ml_RX12_380 : Cond.methodLink RX12 380 yX12_tryEnds ∈ G_ := G_8 (i := 164) rfl rfl
theorem ml_RX12_384 : Cond.methodLink RX12 384 yX12_over ∈ G_ := G_8 (i := 168) rfl rfl
theorem ml_RX12_374 : Cond.methodLink RX12 374 yX12_stretch ∈ G_ := G_8 (i := 172) rfl rfl
theorem ml_RL_111 : Cond.methodLink RL 111 yX12_cutAt ∈ G_ := G_8 (i := 176) rfl rfl
theorem ml_RL_115 : Cond.methodLink RL 115 yX12_net ∈ G_ := G_8 (i := 180) rfl rfl
theorem ml_RL_119 : Cond.methodLink RL 119 yX12_netSide ∈ G_ := G_8 (i := 184) rfl rfl
theorem ml_RL_123 : Cond.methodLink RL 123 yX12_chain ∈ G_ := G_8 (i := 188) rfl rfl
theorem ml_RX12_399 : Cond.methodLink RX12 399 yX12_tryChain ∈ G_ := G_8 (i := 192) rfl rfl
theorem ml_RL_127 : Cond.methodLink RL 127 yX12_chainAt ∈ G_ := G_8 (i := 196) rfl rfl
theorem ml_RL_131 : Cond.methodLink RL 131 yX12_alone ∈ G_ := G_8 (i := 200) rfl rfl
theorem ml_RL_135 : Cond.methodLink RL 135 yX12_leave ∈ G_ := G_8 (i := 204) rfl rfl
theorem ml_RX12_405 : Cond.methodLink RX12 405 yX12_quickest ∈ G_ := G_8 (i := 208) rfl rfl
theorem ml_RX12_408 : Cond.methodLink RX12 408 yX12_isShut ∈ G_ := G_8 (i := 212) rfl rfl
theorem ml_RL_139 : Cond.methodLink RL 139 yX12_extra ∈ G_ := G_8 (i := 216) rfl rfl
theorem ml_RL_143 : Cond.methodLink RL 143 yX12_ask ∈ G_ := G_8 (i := 220) rfl rfl
theorem ml_RX12_411 : Cond.methodLink RX12 411 yX12_bits ∈ G_ := G_8 (i := 224) rfl rfl
theorem ml_RL_147 : Cond.methodLink RL 147 yX12_asked ∈ G_ := G_8 (i := 227) rfl rfl
theorem ml_RL_151 : Cond.methodLink RL 151 yX12_seen ∈ G_ := G_8 (i := 231) rfl rfl
theorem kk_RX12_414 : Cond.constantLong RX12 414 (1000000000000000) ∈ G_ := G_8 (i := 235) rfl rfl
theorem kk_RX12_416 : Cond.constantLong RX12 416 (10) ∈ G_ := G_8 (i := 236) rfl rfl
theorem ml_RL_156 : Cond.methodLink RL 156 yX12_ill ∈ G_ := G_8 (i := 237) rfl rfl
theorem ml_RX12_421 : Cond.methodLink RX12 421 yX12_illNight ∈ G_ := G_9 (i := 1) rfl rfl
theorem ml_RX12_424 : Cond.methodLink RX12 424 yX12_helps ∈ G_ := G_9 (i := 5) rfl rfl
theorem ml_RL_160 : Cond.methodLink RL 160 yX12_sentence ∈ G_ := G_9 (i := 9) rfl rfl
theorem ml_RX12_460 : Cond.methodLink RX12 460 yX12_readOr ∈ G_ := G_9 (i := 13) rfl rfl
theorem ml_RX12_430 : Cond.methodLink RX12 430 yX12_readAnd ∈ G_ := G_9 (i := 17) rfl rfl
theorem ml_RX12_439 : Cond.methodLink RX12 439 yX12_readOne ∈ G_ := G_9 (i := 21) rfl rfl
theorem ml_RX12_448 : Cond.methodLink RX12 448 yX12_readBracket ∈ G_ := G_9 (i := 25) rfl rfl
theorem ml_RX12_451 : Cond.methodLink RX12 451 yX12_readNot ∈ G_ := G_9 (i := 29) rfl rfl
theorem ml_RX12_436 : Cond.methodLink RX12 436 yX12_lays ∈ G_ := G_9 (i := 33) rfl rfl
theorem ml_RX12_454 : Cond.methodLink RX12 454 yX12_readOf ∈ G_ := G_9 (i := 37) rfl rfl
theorem ml_RX12_457 : Cond.methodLink RX12 457 yX12_readCompare ∈ G_ := G_9 (i := 41) rfl rfl
theorem ml_RL_164 : Cond.methodLink RL 164 yX12_said ∈ G_ := G_9 (i := 45) rfl rfl
theorem ml_RX12_463 : Cond.methodLink RX12 463 yX12_isSo ∈ G_ := G_9 (i := 49) rfl rfl
theorem ml_RX12_466 : Cond.methodLink RX12 466 yX12_compares ∈ G_ := G_9 (i := 53) rfl rfl
theorem ml_RL_168 : Cond.methodLink RL 168 yX12_image ∈ G_ := G_9 (i := 56) rfl rfl
theorem ml_RL_172 : Cond.methodLink RL 172 yX12_restore ∈ G_ := G_9 (i := 60) rfl rfl
theorem ml_RL_176 : Cond.methodLink RL 176 yX12_count ∈ G_ := G_9 (i := 64) rfl rfl
theorem cl_X0_clear : Cl_ yX0_clear cX0_clear 1 (none) 0 := ⟨G_1 (i := 145) rfl rfl, G_1 (i := 7) rfl rfl, ⟨by decide +kernel, by decide +kernel, by decide +kernel⟩, by decide⟩
theorem im_X0_clear : Cond.instanceMethod yX0_clear ∈ G_ := G_1 (i := 144) rfl rfl
theorem se_X0_clear : Cond.selects yX0_clear.cls yX0_clear yX0_clear ∈ G_ := G_s (i := 0) rfl rfl
theorem cl_X0_copyFrom : Cl_ yX0_copyFrom cX0_copyFrom 3 (none) 1 := ⟨G_6 (i := 22) rfl rfl, G_1 (i := 7) rfl rfl, ⟨by decide +kernel, by decide +kernel, by decide +kernel⟩, by decide⟩
theorem im_X0_copyFrom : Cond.instanceMethod yX0_copyFrom ∈ G_ := G_6 (i := 20) rfl rfl
theorem se_X0_copyFrom : Cond.selects yX0_copyFrom.cls yX0_copyFrom yX0_copyFrom ∈ G_ := G_6 (i := 21) rfl rfl
theorem cl_X0_copyRow : Cl_ yX0_copyRow cX0_copyRow 3 (none) 3 := ⟨G_5 (i := 28) rfl rfl, G_1 (i := 7) rfl rfl, ⟨by decide +kernel, by decide +kernel, by decide +kernel⟩, by decide⟩
theorem sm_X0_copyRow : Cond.static yX0_copyRow ∈ G_ := G_5 (i := 27) rfl rfl
theorem cl_X0_hasChap : Cl_ yX0_hasChap cX0_hasChap 2 (some .boolean) 1 := ⟨G_4 (i := 10) rfl rfl, G_1 (i := 7) rfl rfl, ⟨by decide +kernel, by decide +kernel, by decide +kernel⟩, by decide⟩
theorem im_X0_hasChap : Cond.instanceMethod yX0_hasChap ∈ G_ := G_4 (i := 8) rfl rfl
theorem se_X0_hasChap : Cond.selects yX0_hasChap.cls yX0_hasChap yX0_hasChap ∈ G_ := G_4 (i := 9) rfl rfl
theorem cl_X0_hasReader : Cl_ yX0_hasReader cX0_hasReader 2 (some .boolean) 1 := ⟨G_4 (i := 223) rfl rfl, G_1 (i := 7) rfl rfl, ⟨by decide +kernel, by decide +kernel, by decide +kernel⟩, by decide⟩
theorem im_X0_hasReader : Cond.instanceMethod yX0_hasReader ∈ G_ := G_4 (i := 221) rfl rfl
theorem se_X0_hasReader : Cond.selects yX0_hasReader.cls yX0_hasReader yX0_hasReader ∈ G_ := G_4 (i := 222) rfl rfl
theorem cl_X0_chapNamed : Cl_ yX0_chapNamed cX0_chapNamed 2 (some .int) 1 := ⟨G_3 (i := 186) rfl rfl, G_1 (i := 7) rfl rfl, ⟨by decide +kernel, by decide +kernel, by decide +kernel⟩, by decide⟩
theorem im_X0_chapNamed : Cond.instanceMethod yX0_chapNamed ∈ G_ := G_3 (i := 184) rfl rfl
theorem se_X0_chapNamed : Cond.selects yX0_chapNamed.cls yX0_chapNamed yX0_chapNamed ∈ G_ := G_3 (i := 185) rfl rfl
theorem cl_X0_readerNamed : Cl_ yX0_readerNamed cX0_readerNamed 2 (some .int) 1 := ⟨G_3 (i := 193) rfl rfl, G_1 (i := 7) rfl rfl, ⟨by decide +kernel, by decide +kernel, by decide +kernel⟩, by decide⟩
theorem im_X0_readerNamed : Cond.instanceMethod yX0_readerNamed ∈ G_ := G_3 (i := 191) rfl rfl
theorem se_X0_readerNamed : Cond.selects yX0_readerNamed.cls yX0_readerNamed yX0_readerNamed ∈ G_ := G_3 (i := 192) rfl rfl
theorem cl_X0_placeOf : Cl_ yX0_placeOf cX0_placeOf 4 (some .int) 3 := ⟨G_3 (i := 189) rfl rfl, G_1 (i := 7) rfl rfl, ⟨by decide +kernel, by decide +kernel, by decide +kernel⟩, by decide⟩
theorem sm_X0_placeOf : Cond.static yX0_placeOf ∈ G_ := G_3 (i := 188) rfl rfl
theorem cl_X0_leansOnHowMany : Cl_ yX0_leansOnHowMany cX0_leansOnHowMany 4 (some .int) 1 := ⟨G_6 (i := 114) rfl rfl, G_1 (i := 7) rfl rfl, ⟨by decide +kernel, by decide +kernel, by decide +kernel⟩, by decide⟩
theorem im_X0_leansOnHowMany : Cond.instanceMethod yX0_leansOnHowMany ∈ G_ := G_6 (i := 112) rfl rfl
theorem se_X0_leansOnHowMany : Cond.selects yX0_leansOnHowMany.cls yX0_leansOnHowMany yX0_leansOnHowMany ∈ G_ := G_6 (i := 113) rfl rfl
theorem cl_X0_readFrom : Cl_ yX0_readFrom cX0_readFrom 4 (some .boolean) 1 := ⟨G_3 (i := 169) rfl rfl, G_1 (i := 7) rfl rfl, ⟨by decide +kernel, by decide +kernel, by decide +kernel⟩, by decide⟩
theorem im_X0_readFrom : Cond.instanceMethod yX0_readFrom ∈ G_ := G_3 (i := 167) rfl rfl
theorem se_X0_readFrom : Cond.selects yX0_readFrom.cls yX0_readFrom yX0_readFrom ∈ G_ := G_3 (i := 168) rfl rfl
theorem cl_X0_readChap : Cl_ yX0_readChap cX0_readChap 3 (some .boolean) 1 := ⟨G_3 (i := 173) rfl rfl, G_1 (i := 7) rfl rfl, ⟨by decide +kernel, by decide +kernel, by decide +kernel⟩, by decide⟩
theorem im_X0_readChap : Cond.instanceMethod yX0_readChap ∈ G_ := G_3 (i := 172) rfl rfl
theorem se_X0_readChap : Cond.selects yX0_readChap.cls yX0_readChap yX0_readChap ∈ G_ := G_s (i := 2) rfl rfl
theorem cl_X0_readLeanings : Cl_ yX0_readLeanings cX0_readLeanings 6 (some .boolean) 2 := ⟨G_3 (i := 206) rfl rfl, G_1 (i := 7) rfl rfl, ⟨by decide +kernel, by decide +kernel, by decide +kernel⟩, by decide⟩
theorem im_X0_readLeanings : Cond.instanceMethod yX0_readLeanings ∈ G_ := G_3 (i := 205) rfl rfl
theorem se_X0_readLeanings : Cond.selects yX0_readLeanings.cls yX0_readLeanings yX0_readLeanings ∈ G_ := G_s (i := 4) rfl rfl
theorem cl_X0_readReader : Cl_ yX0_readReader cX0_readReader 3 (some .boolean) 1 := ⟨G_3 (i := 215) rfl rfl, G_1 (i := 7) rfl rfl, ⟨by decide +kernel, by decide +kernel, by decide +kernel⟩, by decide⟩
theorem im_X0_readReader : Cond.instanceMethod yX0_readReader ∈ G_ := G_3 (i := 214) rfl rfl
theorem se_X0_readReader : Cond.selects yX0_readReader.cls yX0_readReader yX0_readReader ∈ G_ := G_s (i := 5) rfl rfl
theorem cl_X0_takeInto : Cl_ yX0_takeInto cX0_takeInto 5 (some .boolean) 5 := ⟨G_3 (i := 218) rfl rfl, G_1 (i := 7) rfl rfl, ⟨by decide +kernel, by decide +kernel, by decide +kernel⟩, by decide⟩
theorem sm_X0_takeInto : Cond.static yX0_takeInto ∈ G_ := G_3 (i := 217) rfl rfl
theorem cl_X0_readSpeed : Cl_ yX0_readSpeed cX0_readSpeed 2 (some .boolean) 1 := ⟨G_3 (i := 222) rfl rfl, G_1 (i := 7) rfl rfl, ⟨by decide +kernel, by decide +kernel, by decide +kernel⟩, by decide⟩
theorem im_X0_readSpeed : Cond.instanceMethod yX0_readSpeed ∈ G_ := G_3 (i := 221) rfl rfl
theorem se_X0_readSpeed : Cond.selects yX0_readSpeed.cls yX0_readSpeed yX0_readSpeed ∈ G_ := G_s (i := 6) rfl rfl
theorem cl_X0_readAgain : Cl_ yX0_readAgain cX0_readAgain 2 (some .boolean) 1 := ⟨G_3 (i := 226) rfl rfl, G_1 (i := 7) rfl rfl, ⟨by decide +kernel, by decide +kernel, by decide +kernel⟩, by decide⟩
theorem im_X0_readAgain : Cond.instanceMethod yX0_readAgain ∈ G_ := G_3 (i := 225) rfl rfl
theorem se_X0_readAgain : Cond.selects yX0_readAgain.cls yX0_readAgain yX0_readAgain ∈ G_ := G_s (i := 7) rfl rfl
theorem cl_X0_takeNewName : Cl_ yX0_takeNewName cX0_takeNewName 2 (some .boolean) 1 := ⟨G_3 (i := 182) rfl rfl, G_1 (i := 7) rfl rfl, ⟨by decide +kernel, by decide +kernel, by decide +kernel⟩, by decide⟩
theorem im_X0_takeNewName : Cond.instanceMethod yX0_takeNewName ∈ G_ := G_3 (i := 181) rfl rfl
theorem se_X0_takeNewName : Cond.selects yX0_takeNewName.cls yX0_takeNewName yX0_takeNewName ∈ G_ := G_s (i := 3) rfl rfl
theorem cl_X0_cutUp : Cl_ yX0_cutUp cX0_cutUp 2 (some .int) 2 := ⟨G_4 (i := 107) rfl rfl, G_1 (i := 7) rfl rfl, ⟨by decide +kernel, by decide +kernel, by decide +kernel⟩, by decide⟩
theorem sm_X0_cutUp : Cond.static yX0_cutUp ∈ G_ := G_4 (i := 106) rfl rfl
theorem cl_X0_readTime : Cl_ yX0_readTime cX0_readTime 3 (some .int) 2 := ⟨G_4 (i := 104) rfl rfl, G_1 (i := 7) rfl rfl, ⟨by decide +kernel, by decide +kernel, by decide +kernel⟩, by decide⟩
theorem im_X0_readTime : Cond.instanceMethod yX0_readTime ∈ G_ := G_4 (i := 102) rfl rfl
theorem se_X0_readTime : Cond.selects yX0_readTime.cls yX0_readTime yX0_readTime ∈ G_ := G_4 (i := 103) rfl rfl
theorem cl_X0_tellTime : Cl_ yX0_tellTime cX0_tellTime 3 (some .int) 2 := ⟨G_4 (i := 111) rfl rfl, G_1 (i := 7) rfl rfl, ⟨by decide +kernel, by decide +kernel, by decide +kernel⟩, by decide⟩
theorem im_X0_tellTime : Cond.instanceMethod yX0_tellTime ∈ G_ := G_4 (i := 109) rfl rfl
theorem se_X0_tellTime : Cond.selects yX0_tellTime.cls yX0_tellTime yX0_tellTime ∈ G_ := G_4 (i := 110) rfl rfl
theorem cl_X0_lackAt : Cl_ yX0_lackAt cX0_lackAt 6 (some .int) 3 := ⟨G_4 (i := 127) rfl rfl, G_1 (i := 7) rfl rfl, ⟨by decide +kernel, by decide +kernel, by decide +kernel⟩, by decide⟩
theorem im_X0_lackAt : Cond.instanceMethod yX0_lackAt ∈ G_ := G_4 (i := 125) rfl rfl
theorem se_X0_lackAt : Cond.selects yX0_lackAt.cls yX0_lackAt yX0_lackAt ∈ G_ := G_4 (i := 126) rfl rfl
theorem cl_X0_partsRead : Cl_ yX0_partsRead cX0_partsRead 3 (some .int) 2 := ⟨G_4 (i := 132) rfl rfl, G_1 (i := 7) rfl rfl, ⟨by decide +kernel, by decide +kernel, by decide +kernel⟩, by decide⟩
theorem im_X0_partsRead : Cond.instanceMethod yX0_partsRead ∈ G_ := G_4 (i := 130) rfl rfl
theorem se_X0_partsRead : Cond.selects yX0_partsRead.cls yX0_partsRead yX0_partsRead ∈ G_ := G_4 (i := 131) rfl rfl
theorem cl_X0_partsTold : Cl_ yX0_partsTold cX0_partsTold 6 (some .int) 4 := ⟨G_4 (i := 143) rfl rfl, G_1 (i := 7) rfl rfl, ⟨by decide +kernel, by decide +kernel, by decide +kernel⟩, by decide⟩
theorem im_X0_partsTold : Cond.instanceMethod yX0_partsTold ∈ G_ := G_4 (i := 141) rfl rfl
theorem se_X0_partsTold : Cond.selects yX0_partsTold.cls yX0_partsTold yX0_partsTold ∈ G_ := G_4 (i := 142) rfl rfl
theorem cl_X0_retold : Cl_ yX0_retold cX0_retold 2 (some .int) 1 := ⟨G_4 (i := 147) rfl rfl, G_1 (i := 7) rfl rfl, ⟨by decide +kernel, by decide +kernel, by decide +kernel⟩, by decide⟩
theorem im_X0_retold : Cond.instanceMethod yX0_retold ∈ G_ := G_4 (i := 145) rfl rfl
theorem se_X0_retold : Cond.selects yX0_retold.cls yX0_retold yX0_retold ∈ G_ := G_4 (i := 146) rfl rfl
theorem cl_X0_ofMillion : Cl_ yX0_ofMillion cX0_ofMillion 2 (some .int) 2 := ⟨G_4 (i := 151) rfl rfl, G_1 (i := 7) rfl rfl, ⟨by decide +kernel, by decide +kernel, by decide +kernel⟩, by decide⟩
theorem sm_X0_ofMillion : Cond.static yX0_ofMillion ∈ G_ := G_4 (i := 150) rfl rfl
theorem cl_X1_readAlone : Cl_ yX1_readAlone cX1_readAlone 8 (none) 2 := ⟨G_5 (i := 122) rfl rfl, G_1 (i := 16) rfl rfl, ⟨by decide +kernel, by decide +kernel, by decide +kernel⟩, by decide⟩
theorem im_X1_readAlone : Cond.instanceMethod yX1_readAlone ∈ G_ := G_5 (i := 120) rfl rfl
theorem se_X1_readAlone : Cond.selects yX1_readAlone.cls yX1_readAlone yX1_readAlone ∈ G_ := G_5 (i := 121) rfl rfl
theorem cl_X1_leaveOut : Cl_ yX1_leaveOut cX1_leaveOut 5 (none) 1 := ⟨G_5 (i := 132) rfl rfl, G_1 (i := 16) rfl rfl, ⟨by decide +kernel, by decide +kernel, by decide +kernel⟩, by decide⟩
theorem im_X1_leaveOut : Cond.instanceMethod yX1_leaveOut ∈ G_ := G_5 (i := 130) rfl rfl
theorem se_X1_leaveOut : Cond.selects yX1_leaveOut.cls yX1_leaveOut yX1_leaveOut ∈ G_ := G_5 (i := 131) rfl rfl
theorem cl_X1_tryLeaving : Cl_ yX1_tryLeaving cX1_tryLeaving 6 (none) 5 := ⟨G_5 (i := 136) rfl rfl, G_1 (i := 16) rfl rfl, ⟨by decide +kernel, by decide +kernel, by decide +kernel⟩, by decide⟩
theorem im_X1_tryLeaving : Cond.instanceMethod yX1_tryLeaving ∈ G_ := G_5 (i := 135) rfl rfl
theorem se_X1_tryLeaving : Cond.selects yX1_tryLeaving.cls yX1_tryLeaving yX1_tryLeaving ∈ G_ := G_s (i := 32) rfl rfl
theorem cl_X1_askFewest : Cl_ yX1_askFewest cX1_askFewest 8 (some .int) 4 := ⟨G_5 (i := 156) rfl rfl, G_1 (i := 16) rfl rfl, ⟨by decide +kernel, by decide +kernel, by decide +kernel⟩, by decide⟩
theorem im_X1_askFewest : Cond.instanceMethod yX1_askFewest ∈ G_ := G_5 (i := 154) rfl rfl
theorem se_X1_askFewest : Cond.selects yX1_askFewest.cls yX1_askFewest yX1_askFewest ∈ G_ := G_5 (i := 155) rfl rfl
theorem cl_X1_readQuestions : Cl_ yX1_readQuestions cX1_readQuestions 6 (some .boolean) 3 := ⟨G_5 (i := 160) rfl rfl, G_1 (i := 16) rfl rfl, ⟨by decide +kernel, by decide +kernel, by decide +kernel⟩, by decide⟩
theorem im_X1_readQuestions : Cond.instanceMethod yX1_readQuestions ∈ G_ := G_5 (i := 159) rfl rfl
theorem se_X1_readQuestions : Cond.selects yX1_readQuestions.cls yX1_readQuestions yX1_readQuestions ∈ G_ := G_s (i := 34) rfl rfl
theorem cl_X2_stretch : Cl_ yX2_stretch cX2_stretch 7 (some .int) 3 := ⟨G_5 (i := 57) rfl rfl, G_1 (i := 14) rfl rfl, ⟨by decide +kernel, by decide +kernel, by decide +kernel⟩, by decide⟩
theorem im_X2_stretch : Cond.instanceMethod yX2_stretch ∈ G_ := G_5 (i := 55) rfl rfl
theorem se_X2_stretch : Cond.selects yX2_stretch.cls yX2_stretch yX2_stretch ∈ G_ := G_5 (i := 56) rfl rfl
theorem cl_X2_chooseEnds : Cl_ yX2_chooseEnds cX2_chooseEnds 10 (none) 4 := ⟨G_5 (i := 62) rfl rfl, G_1 (i := 14) rfl rfl, ⟨by decide +kernel, by decide +kernel, by decide +kernel⟩, by decide⟩
theorem im_X2_chooseEnds : Cond.instanceMethod yX2_chooseEnds ∈ G_ := G_5 (i := 61) rfl rfl
theorem se_X2_chooseEnds : Cond.selects yX2_chooseEnds.cls yX2_chooseEnds yX2_chooseEnds ∈ G_ := G_s (i := 30) rfl rfl
theorem cl_X2_divide : Cl_ yX2_divide cX2_divide 9 (some .int) 4 := ⟨G_5 (i := 82) rfl rfl, G_1 (i := 14) rfl rfl, ⟨by decide +kernel, by decide +kernel, by decide +kernel⟩, by decide⟩
theorem im_X2_divide : Cond.instanceMethod yX2_divide ∈ G_ := G_5 (i := 80) rfl rfl
theorem se_X2_divide : Cond.selects yX2_divide.cls yX2_divide yX2_divide ∈ G_ := G_5 (i := 81) rfl rfl
theorem cl_X2_sidesFit : Cl_ yX2_sidesFit cX2_sidesFit 9 (some .boolean) 5 := ⟨G_5 (i := 85) rfl rfl, G_1 (i := 14) rfl rfl, ⟨by decide +kernel, by decide +kernel, by decide +kernel⟩, by decide⟩
theorem sm_X2_sidesFit : Cond.static yX2_sidesFit ∈ G_ := G_5 (i := 84) rfl rfl
theorem cl_X2_overSides : Cl_ yX2_overSides cX2_overSides 8 (some .int) 4 := ⟨G_5 (i := 89) rfl rfl, G_1 (i := 14) rfl rfl, ⟨by decide +kernel, by decide +kernel, by decide +kernel⟩, by decide⟩
theorem sm_X2_overSides : Cond.static yX2_overSides ∈ G_ := G_5 (i := 88) rfl rfl
theorem cl_X3_fall : Cl_ yX3_fall cX3_fall 7 (none) 4 := ⟨G_5 (i := 186) rfl rfl, G_1 (i := 12) rfl rfl, ⟨by decide +kernel, by decide +kernel, by decide +kernel⟩, by decide⟩
theorem im_X3_fall : Cond.instanceMethod yX3_fall ∈ G_ := G_5 (i := 184) rfl rfl
theorem se_X3_fall : Cond.selects yX3_fall.cls yX3_fall yX3_fall ∈ G_ := G_5 (i := 185) rfl rfl
theorem cl_X3_tryAct : Cl_ yX3_tryAct cX3_tryAct 5 (some .boolean) 3 := ⟨G_5 (i := 191) rfl rfl, G_1 (i := 12) rfl rfl, ⟨by decide +kernel, by decide +kernel, by decide +kernel⟩, by decide⟩
theorem im_X3_tryAct : Cond.instanceMethod yX3_tryAct ∈ G_ := G_5 (i := 190) rfl rfl
theorem se_X3_tryAct : Cond.selects yX3_tryAct.cls yX3_tryAct yX3_tryAct ∈ G_ := G_s (i := 35) rfl rfl
theorem cl_X3_offerHelp : Cl_ yX3_offerHelp cX3_offerHelp 4 (none) 1 := ⟨G_5 (i := 198) rfl rfl, G_1 (i := 12) rfl rfl, ⟨by decide +kernel, by decide +kernel, by decide +kernel⟩, by decide⟩
theorem im_X3_offerHelp : Cond.instanceMethod yX3_offerHelp ∈ G_ := G_5 (i := 197) rfl rfl
theorem se_X3_offerHelp : Cond.selects yX3_offerHelp.cls yX3_offerHelp yX3_offerHelp ∈ G_ := G_s (i := 36) rfl rfl
theorem cl_X3_readMissed : Cl_ yX3_readMissed cX3_readMissed 4 (none) 1 := ⟨G_5 (i := 203) rfl rfl, G_1 (i := 12) rfl rfl, ⟨by decide +kernel, by decide +kernel, by decide +kernel⟩, by decide⟩
theorem im_X3_readMissed : Cond.instanceMethod yX3_readMissed ∈ G_ := G_5 (i := 202) rfl rfl
theorem se_X3_readMissed : Cond.selects yX3_readMissed.cls yX3_readMissed yX3_readMissed ∈ G_ := G_s (i := 37) rfl rfl
theorem cl_X4_isKind : Cl_ yX4_isKind cX4_isKind 2 (some .boolean) 2 := ⟨G_4 (i := 55) rfl rfl, G_1 (i := 11) rfl rfl, ⟨by decide +kernel, by decide +kernel, by decide +kernel⟩, by decide⟩
theorem sm_X4_isKind : Cond.static yX4_isKind ∈ G_ := G_4 (i := 54) rfl rfl
theorem cl_X4_begin : Cl_ yX4_begin cX4_begin 3 (none) 2 := ⟨G_4 (i := 59) rfl rfl, G_1 (i := 11) rfl rfl, ⟨by decide +kernel, by decide +kernel, by decide +kernel⟩, by decide⟩
theorem im_X4_begin : Cond.instanceMethod yX4_begin ∈ G_ := G_4 (i := 57) rfl rfl
theorem se_X4_begin : Cond.selects yX4_begin.cls yX4_begin yX4_begin ∈ G_ := G_4 (i := 58) rfl rfl
theorem cl_X4_fill : Cl_ yX4_fill cX4_fill 3 (none) 2 := ⟨G_4 (i := 68) rfl rfl, G_1 (i := 11) rfl rfl, ⟨by decide +kernel, by decide +kernel, by decide +kernel⟩, by decide⟩
theorem im_X4_fill : Cond.instanceMethod yX4_fill ∈ G_ := G_4 (i := 66) rfl rfl
theorem se_X4_fill : Cond.selects yX4_fill.cls yX4_fill yX4_fill ∈ G_ := G_4 (i := 67) rfl rfl
theorem cl_X4_tryAct : Cl_ yX4_tryAct cX4_tryAct 5 (some .boolean) 4 := ⟨G_4 (i := 95) rfl rfl, G_1 (i := 11) rfl rfl, ⟨by decide +kernel, by decide +kernel, by decide +kernel⟩, by decide⟩
theorem im_X4_tryAct : Cond.instanceMethod yX4_tryAct ∈ G_ := G_4 (i := 94) rfl rfl
theorem se_X4_tryAct : Cond.selects yX4_tryAct.cls yX4_tryAct yX4_tryAct ∈ G_ := G_s (i := 16) rfl rfl
theorem cl_X4_addRows : Cl_ yX4_addRows cX4_addRows 3 (none) 0 := ⟨G_4 (i := 157) rfl rfl, G_1 (i := 11) rfl rfl, ⟨by decide +kernel, by decide +kernel, by decide +kernel⟩, by decide⟩
theorem im_X4_addRows : Cond.instanceMethod yX4_addRows ∈ G_ := G_4 (i := 156) rfl rfl
theorem se_X4_addRows : Cond.selects yX4_addRows.cls yX4_addRows yX4_addRows ∈ G_ := G_s (i := 18) rfl rfl
theorem cl_X4_addParts : Cl_ yX4_addParts cX4_addParts 4 (none) 1 := ⟨G_4 (i := 72) rfl rfl, G_1 (i := 11) rfl rfl, ⟨by decide +kernel, by decide +kernel, by decide +kernel⟩, by decide⟩
theorem im_X4_addParts : Cond.instanceMethod yX4_addParts ∈ G_ := G_4 (i := 71) rfl rfl
theorem se_X4_addParts : Cond.selects yX4_addParts.cls yX4_addParts yX4_addParts ∈ G_ := G_s (i := 11) rfl rfl
theorem cl_X4_readPart : Cl_ yX4_readPart cX4_readPart 4 (none) 2 := ⟨G_4 (i := 91) rfl rfl, G_1 (i := 11) rfl rfl, ⟨by decide +kernel, by decide +kernel, by decide +kernel⟩, by decide⟩
theorem im_X4_readPart : Cond.instanceMethod yX4_readPart ∈ G_ := G_4 (i := 90) rfl rfl
theorem se_X4_readPart : Cond.selects yX4_readPart.cls yX4_readPart yX4_readPart ∈ G_ := G_s (i := 15) rfl rfl
theorem cl_X4_findParts : Cl_ yX4_findParts cX4_findParts 4 (none) 1 := ⟨G_4 (i := 76) rfl rfl, G_1 (i := 11) rfl rfl, ⟨by decide +kernel, by decide +kernel, by decide +kernel⟩, by decide⟩
theorem im_X4_findParts : Cond.instanceMethod yX4_findParts ∈ G_ := G_4 (i := 75) rfl rfl
theorem se_X4_findParts : Cond.selects yX4_findParts.cls yX4_findParts yX4_findParts ∈ G_ := G_s (i := 12) rfl rfl
theorem cl_X4_join : Cl_ yX4_join cX4_join 5 (none) 2 := ⟨G_4 (i := 80) rfl rfl, G_1 (i := 11) rfl rfl, ⟨by decide +kernel, by decide +kernel, by decide +kernel⟩, by decide⟩
theorem im_X4_join : Cond.instanceMethod yX4_join ∈ G_ := G_4 (i := 79) rfl rfl
theorem se_X4_join : Cond.selects yX4_join.cls yX4_join yX4_join ∈ G_ := G_s (i := 13) rfl rfl
theorem cl_X4_mostLeft : Cl_ yX4_mostLeft cX4_mostLeft 4 (some .int) 1 := ⟨G_4 (i := 87) rfl rfl, G_1 (i := 11) rfl rfl, ⟨by decide +kernel, by decide +kernel, by decide +kernel⟩, by decide⟩
theorem im_X4_mostLeft : Cond.instanceMethod yX4_mostLeft ∈ G_ := G_4 (i := 86) rfl rfl
theorem se_X4_mostLeft : Cond.selects yX4_mostLeft.cls yX4_mostLeft yX4_mostLeft ∈ G_ := G_s (i := 14) rfl rfl
theorem cl_X4_addSecondReadings : Cl_ yX4_addSecondReadings cX4_addSecondReadings 6 (none) 1 := ⟨G_4 (i := 161) rfl rfl, G_1 (i := 11) rfl rfl, ⟨by decide +kernel, by decide +kernel, by decide +kernel⟩, by decide⟩
theorem im_X4_addSecondReadings : Cond.instanceMethod yX4_addSecondReadings ∈ G_ := G_4 (i := 160) rfl rfl
theorem se_X4_addSecondReadings : Cond.selects yX4_addSecondReadings.cls yX4_addSecondReadings yX4_addSecondReadings ∈ G_ := G_s (i := 19) rfl rfl
theorem cl_X4_mostWorth : Cl_ yX4_mostWorth cX4_mostWorth 4 (some .int) 1 := ⟨G_4 (i := 165) rfl rfl, G_1 (i := 11) rfl rfl, ⟨by decide +kernel, by decide +kernel, by decide +kernel⟩, by decide⟩
theorem im_X4_mostWorth : Cond.instanceMethod yX4_mostWorth ∈ G_ := G_4 (i := 164) rfl rfl
theorem se_X4_mostWorth : Cond.selects yX4_mostWorth.cls yX4_mostWorth yX4_mostWorth ∈ G_ := G_s (i := 20) rfl rfl
theorem cl_X4_readersOf : Cl_ yX4_readersOf cX4_readersOf 4 (some .int) 1 := ⟨G_4 (i := 169) rfl rfl, G_1 (i := 11) rfl rfl, ⟨by decide +kernel, by decide +kernel, by decide +kernel⟩, by decide⟩
theorem im_X4_readersOf : Cond.instanceMethod yX4_readersOf ∈ G_ := G_4 (i := 168) rfl rfl
theorem se_X4_readersOf : Cond.selects yX4_readersOf.cls yX4_readersOf yX4_readersOf ∈ G_ := G_s (i := 21) rfl rfl
theorem cl_X4_addChains : Cl_ yX4_addChains cX4_addChains 6 (none) 1 := ⟨G_4 (i := 173) rfl rfl, G_1 (i := 11) rfl rfl, ⟨by decide +kernel, by decide +kernel, by decide +kernel⟩, by decide⟩
theorem im_X4_addChains : Cond.instanceMethod yX4_addChains ∈ G_ := G_4 (i := 172) rfl rfl
theorem se_X4_addChains : Cond.selects yX4_addChains.cls yX4_addChains yX4_addChains ∈ G_ := G_s (i := 22) rfl rfl
theorem cl_X4_readerOf : Cl_ yX4_readerOf cX4_readerOf 3 (some .int) 1 := ⟨G_4 (i := 177) rfl rfl, G_1 (i := 11) rfl rfl, ⟨by decide +kernel, by decide +kernel, by decide +kernel⟩, by decide⟩
theorem im_X4_readerOf : Cond.instanceMethod yX4_readerOf ∈ G_ := G_4 (i := 176) rfl rfl
theorem se_X4_readerOf : Cond.selects yX4_readerOf.cls yX4_readerOf yX4_readerOf ∈ G_ := G_s (i := 23) rfl rfl
theorem cl_X4_addRounds : Cl_ yX4_addRounds cX4_addRounds 5 (none) 1 := ⟨G_4 (i := 181) rfl rfl, G_1 (i := 11) rfl rfl, ⟨by decide +kernel, by decide +kernel, by decide +kernel⟩, by decide⟩
theorem im_X4_addRounds : Cond.instanceMethod yX4_addRounds ∈ G_ := G_4 (i := 180) rfl rfl
theorem se_X4_addRounds : Cond.selects yX4_addRounds.cls yX4_addRounds yX4_addRounds ∈ G_ := G_s (i := 24) rfl rfl
theorem cl_X4_drawActs : Cl_ yX4_drawActs cX4_drawActs 6 (none) 2 := ⟨G_4 (i := 191) rfl rfl, G_1 (i := 11) rfl rfl, ⟨by decide +kernel, by decide +kernel, by decide +kernel⟩, by decide⟩
theorem im_X4_drawActs : Cond.instanceMethod yX4_drawActs ∈ G_ := G_4 (i := 189) rfl rfl
theorem se_X4_drawActs : Cond.selects yX4_drawActs.cls yX4_drawActs yX4_drawActs ∈ G_ := G_4 (i := 190) rfl rfl
theorem cl_X4_draw : Cl_ yX4_draw cX4_draw 2 (some .int) 1 := ⟨G_4 (i := 195) rfl rfl, G_1 (i := 11) rfl rfl, ⟨by decide +kernel, by decide +kernel, by decide +kernel⟩, by decide⟩
theorem im_X4_draw : Cond.instanceMethod yX4_draw ∈ G_ := G_4 (i := 194) rfl rfl
theorem se_X4_draw : Cond.selects yX4_draw.cls yX4_draw yX4_draw ∈ G_ := G_s (i := 25) rfl rfl
theorem cl_X5_begin : Cl_ yX5_begin cX5_begin 3 (none) 1 := ⟨G_4 (i := 64) rfl rfl, G_1 (i := 10) rfl rfl, ⟨by decide +kernel, by decide +kernel, by decide +kernel⟩, by decide⟩
theorem im_X5_begin : Cond.instanceMethod yX5_begin ∈ G_ := G_4 (i := 62) rfl rfl
theorem se_X5_begin : Cond.selects yX5_begin.cls yX5_begin yX5_begin ∈ G_ := G_4 (i := 63) rfl rfl
theorem cl_X5_follow : Cl_ yX5_follow cX5_follow 3 (none) 1 := ⟨G_4 (i := 209) rfl rfl, G_1 (i := 10) rfl rfl, ⟨by decide +kernel, by decide +kernel, by decide +kernel⟩, by decide⟩
theorem im_X5_follow : Cond.instanceMethod yX5_follow ∈ G_ := G_4 (i := 207) rfl rfl
theorem se_X5_follow : Cond.selects yX5_follow.cls yX5_follow yX5_follow ∈ G_ := G_4 (i := 208) rfl rfl
theorem cl_X5_wrongOf : Cl_ yX5_wrongOf cX5_wrongOf 6 (some .int) 4 := ⟨G_4 (i := 100) rfl rfl, G_1 (i := 10) rfl rfl, ⟨by decide +kernel, by decide +kernel, by decide +kernel⟩, by decide⟩
theorem im_X5_wrongOf : Cond.instanceMethod yX5_wrongOf ∈ G_ := G_4 (i := 98) rfl rfl
theorem se_X5_wrongOf : Cond.selects yX5_wrongOf.cls yX5_wrongOf yX5_wrongOf ∈ G_ := G_4 (i := 99) rfl rfl
theorem cl_X5_withTime : Cl_ yX5_withTime cX5_withTime 4 (some .int) 1 := ⟨G_4 (i := 115) rfl rfl, G_1 (i := 10) rfl rfl, ⟨by decide +kernel, by decide +kernel, by decide +kernel⟩, by decide⟩
theorem im_X5_withTime : Cond.instanceMethod yX5_withTime ∈ G_ := G_4 (i := 113) rfl rfl
theorem se_X5_withTime : Cond.selects yX5_withTime.cls yX5_withTime yX5_withTime ∈ G_ := G_4 (i := 114) rfl rfl
theorem cl_X5_perform : Cl_ yX5_perform cX5_perform 7 (none) 4 := ⟨G_4 (i := 119) rfl rfl, G_1 (i := 10) rfl rfl, ⟨by decide +kernel, by decide +kernel, by decide +kernel⟩, by decide⟩
theorem im_X5_perform : Cond.instanceMethod yX5_perform ∈ G_ := G_4 (i := 117) rfl rfl
theorem se_X5_perform : Cond.selects yX5_perform.cls yX5_perform yX5_perform ∈ G_ := G_4 (i := 118) rfl rfl
theorem cl_X5_partsIfRead : Cl_ yX5_partsIfRead cX5_partsIfRead 4 (some .int) 2 := ⟨G_4 (i := 123) rfl rfl, G_1 (i := 10) rfl rfl, ⟨by decide +kernel, by decide +kernel, by decide +kernel⟩, by decide⟩
theorem im_X5_partsIfRead : Cond.instanceMethod yX5_partsIfRead ∈ G_ := G_4 (i := 121) rfl rfl
theorem se_X5_partsIfRead : Cond.selects yX5_partsIfRead.cls yX5_partsIfRead yX5_partsIfRead ∈ G_ := G_4 (i := 122) rfl rfl
theorem cl_X5_hear : Cl_ yX5_hear cX5_hear 9 (none) 4 := ⟨G_4 (i := 139) rfl rfl, G_1 (i := 10) rfl rfl, ⟨by decide +kernel, by decide +kernel, by decide +kernel⟩, by decide⟩
theorem im_X5_hear : Cond.instanceMethod yX5_hear ∈ G_ := G_4 (i := 138) rfl rfl
theorem se_X5_hear : Cond.selects yX5_hear.cls yX5_hear yX5_hear ∈ G_ := G_s (i := 17) rfl rfl
theorem cl_X5_inAll : Cl_ yX5_inAll cX5_inAll 4 (some .int) 1 := ⟨G_4 (i := 231) rfl rfl, G_1 (i := 10) rfl rfl, ⟨by decide +kernel, by decide +kernel, by decide +kernel⟩, by decide⟩
theorem im_X5_inAll : Cond.instanceMethod yX5_inAll ∈ G_ := G_4 (i := 229) rfl rfl
theorem se_X5_inAll : Cond.selects yX5_inAll.cls yX5_inAll yX5_inAll ∈ G_ := G_4 (i := 230) rfl rfl
theorem cl_X5_sum : Cl_ yX5_sum cX5_sum 3 (some .int) 0 := ⟨G_4 (i := 239) rfl rfl, G_1 (i := 10) rfl rfl, ⟨by decide +kernel, by decide +kernel, by decide +kernel⟩, by decide⟩
theorem im_X5_sum : Cond.instanceMethod yX5_sum ∈ G_ := G_4 (i := 237) rfl rfl
theorem se_X5_sum : Cond.selects yX5_sum.cls yX5_sum yX5_sum ∈ G_ := G_4 (i := 238) rfl rfl
theorem cl_X5_sent : Cl_ yX5_sent cX5_sent 5 (some .int) 0 := ⟨G_5 (i := 4) rfl rfl, G_1 (i := 10) rfl rfl, ⟨by decide +kernel, by decide +kernel, by decide +kernel⟩, by decide⟩
theorem im_X5_sent : Cond.instanceMethod yX5_sent ∈ G_ := G_5 (i := 2) rfl rfl
theorem se_X5_sent : Cond.selects yX5_sent.cls yX5_sent yX5_sent ∈ G_ := G_5 (i := 3) rfl rfl
theorem cl_X5_unreadMusts : Cl_ yX5_unreadMusts cX5_unreadMusts 4 (some .int) 0 := ⟨G_5 (i := 8) rfl rfl, G_1 (i := 10) rfl rfl, ⟨by decide +kernel, by decide +kernel, by decide +kernel⟩, by decide⟩
theorem im_X5_unreadMusts : Cond.instanceMethod yX5_unreadMusts ∈ G_ := G_5 (i := 6) rfl rfl
theorem se_X5_unreadMusts : Cond.selects yX5_unreadMusts.cls yX5_unreadMusts yX5_unreadMusts ∈ G_ := G_5 (i := 7) rfl rfl
theorem cl_X5_lacking : Cl_ yX5_lacking cX5_lacking 5 (some .int) 0 := ⟨G_5 (i := 12) rfl rfl, G_1 (i := 10) rfl rfl, ⟨by decide +kernel, by decide +kernel, by decide +kernel⟩, by decide⟩
theorem im_X5_lacking : Cond.instanceMethod yX5_lacking ∈ G_ := G_5 (i := 10) rfl rfl
theorem se_X5_lacking : Cond.selects yX5_lacking.cls yX5_lacking yX5_lacking ∈ G_ := G_5 (i := 11) rfl rfl
theorem cl_X5_findExtra : Cl_ yX5_findExtra cX5_findExtra 3 (none) 0 := ⟨G_5 (i := 144) rfl rfl, G_1 (i := 10) rfl rfl, ⟨by decide +kernel, by decide +kernel, by decide +kernel⟩, by decide⟩
theorem im_X5_findExtra : Cond.instanceMethod yX5_findExtra ∈ G_ := G_5 (i := 142) rfl rfl
theorem se_X5_findExtra : Cond.selects yX5_findExtra.cls yX5_findExtra yX5_findExtra ∈ G_ := G_5 (i := 143) rfl rfl
theorem cl_X5_offerExtra : Cl_ yX5_offerExtra cX5_offerExtra 5 (none) 2 := ⟨G_5 (i := 148) rfl rfl, G_1 (i := 10) rfl rfl, ⟨by decide +kernel, by decide +kernel, by decide +kernel⟩, by decide⟩
theorem im_X5_offerExtra : Cond.instanceMethod yX5_offerExtra ∈ G_ := G_5 (i := 147) rfl rfl
theorem se_X5_offerExtra : Cond.selects yX5_offerExtra.cls yX5_offerExtra yX5_offerExtra ∈ G_ := G_s (i := 33) rfl rfl
theorem cl_X6_clear : Cl_ yX6_clear cX6_clear 1 (none) 0 := ⟨G_3 (i := 234) rfl rfl, G_1 (i := 8) rfl rfl, ⟨by decide +kernel, by decide +kernel, by decide +kernel⟩, by decide⟩
theorem im_X6_clear : Cond.instanceMethod yX6_clear ∈ G_ := G_3 (i := 232) rfl rfl
theorem se_X6_clear : Cond.selects yX6_clear.cls yX6_clear yX6_clear ∈ G_ := G_3 (i := 233) rfl rfl
theorem cl_X6_copyFrom : Cl_ yX6_copyFrom cX6_copyFrom 2 (none) 1 := ⟨G_6 (i := 27) rfl rfl, G_1 (i := 8) rfl rfl, ⟨by decide +kernel, by decide +kernel, by decide +kernel⟩, by decide⟩
theorem im_X6_copyFrom : Cond.instanceMethod yX6_copyFrom ∈ G_ := G_6 (i := 25) rfl rfl
theorem se_X6_copyFrom : Cond.selects yX6_copyFrom.cls yX6_copyFrom yX6_copyFrom ∈ G_ := G_6 (i := 26) rfl rfl
theorem cl_X6_isFull : Cl_ yX6_isFull cX6_isFull 1 (some .boolean) 0 := ⟨G_4 (i := 40) rfl rfl, G_1 (i := 8) rfl rfl, ⟨by decide +kernel, by decide +kernel, by decide +kernel⟩, by decide⟩
theorem im_X6_isFull : Cond.instanceMethod yX6_isFull ∈ G_ := G_4 (i := 38) rfl rfl
theorem se_X6_isFull : Cond.selects yX6_isFull.cls yX6_isFull yX6_isFull ∈ G_ := G_4 (i := 39) rfl rfl
theorem cl_X6_add : Cl_ yX6_add cX6_add 5 (none) 4 := ⟨G_4 (i := 36) rfl rfl, G_1 (i := 8) rfl rfl, ⟨by decide +kernel, by decide +kernel, by decide +kernel⟩, by decide⟩
theorem im_X6_add : Cond.instanceMethod yX6_add ∈ G_ := G_4 (i := 34) rfl rfl
theorem se_X6_add : Cond.selects yX6_add.cls yX6_add yX6_add ∈ G_ := G_4 (i := 35) rfl rfl
theorem cl_X6_readFrom : Cl_ yX6_readFrom cX6_readFrom 4 (some .boolean) 2 := ⟨G_4 (i := 18) rfl rfl, G_1 (i := 8) rfl rfl, ⟨by decide +kernel, by decide +kernel, by decide +kernel⟩, by decide⟩
theorem im_X6_readFrom : Cond.instanceMethod yX6_readFrom ∈ G_ := G_4 (i := 16) rfl rfl
theorem se_X6_readFrom : Cond.selects yX6_readFrom.cls yX6_readFrom yX6_readFrom ∈ G_ := G_4 (i := 17) rfl rfl
theorem cl_X6_readAct : Cl_ yX6_readAct cX6_readAct 4 (some .boolean) 2 := ⟨G_4 (i := 23) rfl rfl, G_1 (i := 8) rfl rfl, ⟨by decide +kernel, by decide +kernel, by decide +kernel⟩, by decide⟩
theorem im_X6_readAct : Cond.instanceMethod yX6_readAct ∈ G_ := G_4 (i := 22) rfl rfl
theorem se_X6_readAct : Cond.selects yX6_readAct.cls yX6_readAct yX6_readAct ∈ G_ := G_s (i := 8) rfl rfl
theorem cl_X6_readReading : Cl_ yX6_readReading cX6_readReading 4 (some .boolean) 3 := ⟨G_4 (i := 30) rfl rfl, G_1 (i := 8) rfl rfl, ⟨by decide +kernel, by decide +kernel, by decide +kernel⟩, by decide⟩
theorem im_X6_readReading : Cond.instanceMethod yX6_readReading ∈ G_ := G_4 (i := 29) rfl rfl
theorem se_X6_readReading : Cond.selects yX6_readReading.cls yX6_readReading yX6_readReading ∈ G_ := G_s (i := 9) rfl rfl
theorem cl_X6_readTelling : Cl_ yX6_readTelling cX6_readTelling 6 (some .boolean) 3 := ⟨G_4 (i := 44) rfl rfl, G_1 (i := 8) rfl rfl, ⟨by decide +kernel, by decide +kernel, by decide +kernel⟩, by decide⟩
theorem im_X6_readTelling : Cond.instanceMethod yX6_readTelling ∈ G_ := G_4 (i := 43) rfl rfl
theorem se_X6_readTelling : Cond.selects yX6_readTelling.cls yX6_readTelling yX6_readTelling ∈ G_ := G_s (i := 10) rfl rfl
theorem cl_X6_readListeners : Cl_ yX6_readListeners cX6_readListeners 6 (some .boolean) 3 := ⟨G_4 (i := 48) rfl rfl, G_1 (i := 8) rfl rfl, ⟨by decide +kernel, by decide +kernel, by decide +kernel⟩, by decide⟩
theorem sm_X6_readListeners : Cond.static yX6_readListeners ∈ G_ := G_4 (i := 47) rfl rfl
theorem cl_X7_search : Cl_ yX7_search cX7_search 5 (some .int) 3 := ⟨G_5 (i := 101) rfl rfl, G_1 (i := 15) rfl rfl, ⟨by decide +kernel, by decide +kernel, by decide +kernel⟩, by decide⟩
theorem im_X7_search : Cond.instanceMethod yX7_search ∈ G_ := G_5 (i := 99) rfl rfl
theorem se_X7_search : Cond.selects yX7_search.cls yX7_search yX7_search ∈ G_ := G_5 (i := 100) rfl rfl
theorem cl_X7_tryFrom : Cl_ yX7_tryFrom cX7_tryFrom 7 (none) 4 := ⟨G_5 (i := 107) rfl rfl, G_1 (i := 15) rfl rfl, ⟨by decide +kernel, by decide +kernel, by decide +kernel⟩, by decide⟩
theorem im_X7_tryFrom : Cond.instanceMethod yX7_tryFrom ∈ G_ := G_5 (i := 106) rfl rfl
theorem se_X7_tryFrom : Cond.selects yX7_tryFrom.cls yX7_tryFrom yX7_tryFrom ∈ G_ := G_s (i := 31) rfl rfl
theorem cl_X8_hasRoom : Cl_ yX8_hasRoom cX8_hasRoom 2 (some .boolean) 1 := ⟨G_3 (i := 138) rfl rfl, G_1 (i := 2) rfl rfl, ⟨by decide +kernel, by decide +kernel, by decide +kernel⟩, by decide⟩
theorem im_X8_hasRoom : Cond.instanceMethod yX8_hasRoom ∈ G_ := G_3 (i := 136) rfl rfl
theorem se_X8_hasRoom : Cond.selects yX8_hasRoom.cls yX8_hasRoom yX8_hasRoom ∈ G_ := G_3 (i := 137) rfl rfl
theorem cl_X8_append : Cl_ yX8_append cX8_append 3 (none) 1 := ⟨G_3 (i := 142) rfl rfl, G_1 (i := 2) rfl rfl, ⟨by decide +kernel, by decide +kernel, by decide +kernel⟩, by decide⟩
theorem im_X8_append : Cond.instanceMethod yX8_append ∈ G_ := G_3 (i := 140) rfl rfl
theorem se_X8_append : Cond.selects yX8_append.cls yX8_append yX8_append ∈ G_ := G_3 (i := 141) rfl rfl
theorem cl_X8_byteAt : Cl_ yX8_byteAt cX8_byteAt 2 (some .int) 1 := ⟨G_5 (i := 78) rfl rfl, G_1 (i := 2) rfl rfl, ⟨by decide +kernel, by decide +kernel, by decide +kernel⟩, by decide⟩
theorem im_X8_byteAt : Cond.instanceMethod yX8_byteAt ∈ G_ := G_5 (i := 76) rfl rfl
theorem se_X8_byteAt : Cond.selects yX8_byteAt.cls yX8_byteAt yX8_byteAt ∈ G_ := G_5 (i := 77) rfl rfl
theorem cl_X8_areUnlike : Cl_ yX8_areUnlike cX8_areUnlike 7 (some .boolean) 3 := ⟨G_5 (i := 74) rfl rfl, G_1 (i := 2) rfl rfl, ⟨by decide +kernel, by decide +kernel, by decide +kernel⟩, by decide⟩
theorem im_X8_areUnlike : Cond.instanceMethod yX8_areUnlike ∈ G_ := G_5 (i := 72) rfl rfl
theorem se_X8_areUnlike : Cond.selects yX8_areUnlike.cls yX8_areUnlike yX8_areUnlike ∈ G_ := G_5 (i := 73) rfl rfl
theorem cl_X8_start : Cl_ yX8_start cX8_start 2 (none) 1 := ⟨G_3 (i := 154) rfl rfl, G_1 (i := 2) rfl rfl, ⟨by decide +kernel, by decide +kernel, by decide +kernel⟩, by decide⟩
theorem im_X8_start : Cond.instanceMethod yX8_start ∈ G_ := G_3 (i := 152) rfl rfl
theorem se_X8_start : Cond.selects yX8_start.cls yX8_start yX8_start ∈ G_ := G_3 (i := 153) rfl rfl
theorem cl_X8_next : Cl_ yX8_next cX8_next 1 (none) 0 := ⟨G_3 (i := 158) rfl rfl, G_1 (i := 2) rfl rfl, ⟨by decide +kernel, by decide +kernel, by decide +kernel⟩, by decide⟩
theorem im_X8_next : Cond.instanceMethod yX8_next ∈ G_ := G_3 (i := 156) rfl rfl
theorem se_X8_next : Cond.selects yX8_next.cls yX8_next yX8_next ∈ G_ := G_3 (i := 157) rfl rfl
theorem cl_X8_nextWordOrNumber : Cl_ yX8_nextWordOrNumber cX8_nextWordOrNumber 4 (none) 0 := ⟨G_3 (i := 165) rfl rfl, G_1 (i := 2) rfl rfl, ⟨by decide +kernel, by decide +kernel, by decide +kernel⟩, by decide⟩
theorem im_X8_nextWordOrNumber : Cond.instanceMethod yX8_nextWordOrNumber ∈ G_ := G_3 (i := 164) rfl rfl
theorem se_X8_nextWordOrNumber : Cond.selects yX8_nextWordOrNumber.cls yX8_nextWordOrNumber yX8_nextWordOrNumber ∈ G_ := G_s (i := 1) rfl rfl
theorem cl_X8_isSign : Cl_ yX8_isSign cX8_isSign 1 (some .boolean) 1 := ⟨G_3 (i := 161) rfl rfl, G_1 (i := 2) rfl rfl, ⟨by decide +kernel, by decide +kernel, by decide +kernel⟩, by decide⟩
theorem sm_X8_isSign : Cond.static yX8_isSign ∈ G_ := G_3 (i := 160) rfl rfl
theorem cl_X8_isComparison : Cl_ yX8_isComparison cX8_isComparison 1 (some .boolean) 1 := ⟨G_5 (i := 235) rfl rfl, G_1 (i := 2) rfl rfl, ⟨by decide +kernel, by decide +kernel, by decide +kernel⟩, by decide⟩
theorem sm_X8_isComparison : Cond.static yX8_isComparison ∈ G_ := G_5 (i := 234) rfl rfl
theorem cl_X8_fail : Cl_ yX8_fail cX8_fail 2 (some .boolean) 1 := ⟨G_3 (i := 177) rfl rfl, G_1 (i := 2) rfl rfl, ⟨by decide +kernel, by decide +kernel, by decide +kernel⟩, by decide⟩
theorem im_X8_fail : Cond.instanceMethod yX8_fail ∈ G_ := G_3 (i := 175) rfl rfl
theorem se_X8_fail : Cond.selects yX8_fail.cls yX8_fail yX8_fail ∈ G_ := G_3 (i := 176) rfl rfl
theorem cl_X8_faultAnswer : Cl_ yX8_faultAnswer cX8_faultAnswer 1 (some .int) 0 := ⟨G_3 (i := 230) rfl rfl, G_1 (i := 2) rfl rfl, ⟨by decide +kernel, by decide +kernel, by decide +kernel⟩, by decide⟩
theorem im_X8_faultAnswer : Cond.instanceMethod yX8_faultAnswer ∈ G_ := G_3 (i := 228) rfl rfl
theorem se_X8_faultAnswer : Cond.selects yX8_faultAnswer.cls yX8_faultAnswer yX8_faultAnswer ∈ G_ := G_3 (i := 229) rfl rfl
theorem cl_X8_take : Cl_ yX8_take cX8_take 2 (some .boolean) 1 := ⟨G_3 (i := 197) rfl rfl, G_1 (i := 2) rfl rfl, ⟨by decide +kernel, by decide +kernel, by decide +kernel⟩, by decide⟩
theorem im_X8_take : Cond.instanceMethod yX8_take ∈ G_ := G_3 (i := 195) rfl rfl
theorem se_X8_take : Cond.selects yX8_take.cls yX8_take yX8_take ∈ G_ := G_3 (i := 196) rfl rfl
theorem cl_X8_takeNumber : Cl_ yX8_takeNumber cX8_takeNumber 3 (some .boolean) 2 := ⟨G_3 (i := 202) rfl rfl, G_1 (i := 2) rfl rfl, ⟨by decide +kernel, by decide +kernel, by decide +kernel⟩, by decide⟩
theorem im_X8_takeNumber : Cond.instanceMethod yX8_takeNumber ∈ G_ := G_3 (i := 200) rfl rfl
theorem se_X8_takeNumber : Cond.selects yX8_takeNumber.cls yX8_takeNumber yX8_takeNumber ∈ G_ := G_3 (i := 201) rfl rfl
theorem cl_X8_takeChap : Cl_ yX8_takeChap cX8_takeChap 3 (some .boolean) 1 := ⟨G_3 (i := 210) rfl rfl, G_1 (i := 2) rfl rfl, ⟨by decide +kernel, by decide +kernel, by decide +kernel⟩, by decide⟩
theorem im_X8_takeChap : Cond.instanceMethod yX8_takeChap ∈ G_ := G_3 (i := 208) rfl rfl
theorem se_X8_takeChap : Cond.selects yX8_takeChap.cls yX8_takeChap yX8_takeChap ∈ G_ := G_3 (i := 209) rfl rfl
theorem cl_X9_clear : Cl_ yX9_clear cX9_clear 1 (none) 0 := ⟨G_3 (i := 238) rfl rfl, G_1 (i := 9) rfl rfl, ⟨by decide +kernel, by decide +kernel, by decide +kernel⟩, by decide⟩
theorem im_X9_clear : Cond.instanceMethod yX9_clear ∈ G_ := G_3 (i := 236) rfl rfl
theorem se_X9_clear : Cond.selects yX9_clear.cls yX9_clear yX9_clear ∈ G_ := G_3 (i := 237) rfl rfl
theorem cl_X9_copyFrom : Cl_ yX9_copyFrom cX9_copyFrom 2 (none) 1 := ⟨G_6 (i := 32) rfl rfl, G_1 (i := 9) rfl rfl, ⟨by decide +kernel, by decide +kernel, by decide +kernel⟩, by decide⟩
theorem im_X9_copyFrom : Cond.instanceMethod yX9_copyFrom ∈ G_ := G_6 (i := 30) rfl rfl
theorem se_X9_copyFrom : Cond.selects yX9_copyFrom.cls yX9_copyFrom yX9_copyFrom ∈ G_ := G_6 (i := 31) rfl rfl
theorem cl_X9_add : Cl_ yX9_add cX9_add 5 (none) 4 := ⟨G_5 (i := 227) rfl rfl, G_1 (i := 9) rfl rfl, ⟨by decide +kernel, by decide +kernel, by decide +kernel⟩, by decide⟩
theorem im_X9_add : Cond.instanceMethod yX9_add ∈ G_ := G_5 (i := 226) rfl rfl
theorem se_X9_add : Cond.selects yX9_add.cls yX9_add yX9_add ∈ G_ := G_s (i := 40) rfl rfl
theorem cl_X9_readFrom : Cl_ yX9_readFrom cX9_readFrom 3 (some .boolean) 2 := ⟨G_5 (i := 211) rfl rfl, G_1 (i := 9) rfl rfl, ⟨by decide +kernel, by decide +kernel, by decide +kernel⟩, by decide⟩
theorem im_X9_readFrom : Cond.instanceMethod yX9_readFrom ∈ G_ := G_5 (i := 209) rfl rfl
theorem se_X9_readFrom : Cond.selects yX9_readFrom.cls yX9_readFrom yX9_readFrom ∈ G_ := G_5 (i := 210) rfl rfl
theorem cl_X9_readCond : Cl_ yX9_readCond cX9_readCond 7 (some .boolean) 3 := ⟨G_5 (i := 216) rfl rfl, G_1 (i := 9) rfl rfl, ⟨by decide +kernel, by decide +kernel, by decide +kernel⟩, by decide⟩
theorem im_X9_readCond : Cond.instanceMethod yX9_readCond ∈ G_ := G_5 (i := 215) rfl rfl
theorem se_X9_readCond : Cond.selects yX9_readCond.cls yX9_readCond yX9_readCond ∈ G_ := G_s (i := 38) rfl rfl
theorem cl_X9_readOne : Cl_ yX9_readOne cX9_readOne 5 (some .boolean) 3 := ⟨G_5 (i := 220) rfl rfl, G_1 (i := 9) rfl rfl, ⟨by decide +kernel, by decide +kernel, by decide +kernel⟩, by decide⟩
theorem im_X9_readOne : Cond.instanceMethod yX9_readOne ∈ G_ := G_5 (i := 219) rfl rfl
theorem se_X9_readOne : Cond.selects yX9_readOne.cls yX9_readOne yX9_readOne ∈ G_ := G_s (i := 39) rfl rfl
theorem cl_X9_readAsking : Cl_ yX9_readAsking cX9_readAsking 6 (some .boolean) 3 := ⟨G_5 (i := 231) rfl rfl, G_1 (i := 9) rfl rfl, ⟨by decide +kernel, by decide +kernel, by decide +kernel⟩, by decide⟩
theorem im_X9_readAsking : Cond.instanceMethod yX9_readAsking ∈ G_ := G_5 (i := 230) rfl rfl
theorem se_X9_readAsking : Cond.selects yX9_readAsking.cls yX9_readAsking yX9_readAsking ∈ G_ := G_s (i := 41) rfl rfl
theorem cl_X9_holds : Cl_ yX9_holds cX9_holds 6 (some .boolean) 2 := ⟨G_6 (i := 4) rfl rfl, G_1 (i := 9) rfl rfl, ⟨by decide +kernel, by decide +kernel, by decide +kernel⟩, by decide⟩
theorem im_X9_holds : Cond.instanceMethod yX9_holds ∈ G_ := G_6 (i := 2) rfl rfl
theorem se_X9_holds : Cond.selects yX9_holds.cls yX9_holds yX9_holds ∈ G_ := G_6 (i := 3) rfl rfl
theorem cl_X9_isSo : Cl_ yX9_isSo cX9_isSo 4 (some .boolean) 3 := ⟨G_6 (i := 8) rfl rfl, G_1 (i := 9) rfl rfl, ⟨by decide +kernel, by decide +kernel, by decide +kernel⟩, by decide⟩
theorem im_X9_isSo : Cond.instanceMethod yX9_isSo ∈ G_ := G_6 (i := 7) rfl rfl
theorem se_X9_isSo : Cond.selects yX9_isSo.cls yX9_isSo yX9_isSo ∈ G_ := G_s (i := 42) rfl rfl
theorem cl_X9_compares : Cl_ yX9_compares cX9_compares 3 (some .boolean) 2 := ⟨G_6 (i := 12) rfl rfl, G_1 (i := 9) rfl rfl, ⟨by decide +kernel, by decide +kernel, by decide +kernel⟩, by decide⟩
theorem im_X9_compares : Cond.instanceMethod yX9_compares ∈ G_ := G_6 (i := 11) rfl rfl
theorem se_X9_compares : Cond.selects yX9_compares.cls yX9_compares yX9_compares ∈ G_ := G_s (i := 43) rfl rfl
theorem cl_X10_search : Cl_ yX10_search cX10_search 5 (some .int) 3 := ⟨G_5 (i := 21) rfl rfl, G_1 (i := 13) rfl rfl, ⟨by decide +kernel, by decide +kernel, by decide +kernel⟩, by decide⟩
theorem im_X10_search : Cond.instanceMethod yX10_search ∈ G_ := G_5 (i := 19) rfl rfl
theorem se_X10_search : Cond.selects yX10_search.cls yX10_search yX10_search ∈ G_ := G_5 (i := 20) rfl rfl
theorem cl_X10_tryFrom : Cl_ yX10_tryFrom cX10_tryFrom 5 (none) 2 := ⟨G_5 (i := 25) rfl rfl, G_1 (i := 13) rfl rfl, ⟨by decide +kernel, by decide +kernel, by decide +kernel⟩, by decide⟩
theorem im_X10_tryFrom : Cond.instanceMethod yX10_tryFrom ∈ G_ := G_5 (i := 24) rfl rfl
theorem se_X10_tryFrom : Cond.selects yX10_tryFrom.cls yX10_tryFrom yX10_tryFrom ∈ G_ := G_s (i := 27) rfl rfl
theorem cl_X10_mostOfRest : Cl_ yX10_mostOfRest cX10_mostOfRest 4 (some .int) 1 := ⟨G_5 (i := 35) rfl rfl, G_1 (i := 13) rfl rfl, ⟨by decide +kernel, by decide +kernel, by decide +kernel⟩, by decide⟩
theorem im_X10_mostOfRest : Cond.instanceMethod yX10_mostOfRest ∈ G_ := G_5 (i := 34) rfl rfl
theorem se_X10_mostOfRest : Cond.selects yX10_mostOfRest.cls yX10_mostOfRest yX10_mostOfRest ∈ G_ := G_s (i := 28) rfl rfl
theorem cl_X10_worthIfReadBy : Cl_ yX10_worthIfReadBy cX10_worthIfReadBy 8 (some .int) 2 := ⟨G_5 (i := 40) rfl rfl, G_1 (i := 13) rfl rfl, ⟨by decide +kernel, by decide +kernel, by decide +kernel⟩, by decide⟩
theorem im_X10_worthIfReadBy : Cond.instanceMethod yX10_worthIfReadBy ∈ G_ := G_5 (i := 39) rfl rfl
theorem se_X10_worthIfReadBy : Cond.selects yX10_worthIfReadBy.cls yX10_worthIfReadBy yX10_worthIfReadBy ∈ G_ := G_s (i := 29) rfl rfl
theorem cl_X11_feed : Cl_ yX11_feed cX11_feed 6 (some .int) 5 := ⟨G_3 (i := 134) rfl rfl, G_1 (i := 1) rfl rfl, ⟨by decide +kernel, by decide +kernel, by decide +kernel⟩, by decide⟩
theorem im_X11_feed : Cond.instanceMethod yX11_feed ∈ G_ := G_3 (i := 132) rfl rfl
theorem se_X11_feed : Cond.selects yX11_feed.cls yX11_feed yX11_feed ∈ G_ := G_3 (i := 133) rfl rfl
theorem cl_X11_end : Cl_ yX11_end cX11_end 2 (some .boolean) 1 := ⟨G_3 (i := 146) rfl rfl, G_1 (i := 1) rfl rfl, ⟨by decide +kernel, by decide +kernel, by decide +kernel⟩, by decide⟩
theorem im_X11_end : Cond.instanceMethod yX11_end ∈ G_ := G_3 (i := 144) rfl rfl
theorem se_X11_end : Cond.selects yX11_end.cls yX11_end yX11_end ∈ G_ := G_3 (i := 145) rfl rfl
theorem cl_X11_book : Cl_ yX11_book cX11_book 3 (some .int) 0 := ⟨G_3 (i := 150) rfl rfl, G_1 (i := 1) rfl rfl, ⟨by decide +kernel, by decide +kernel, by decide +kernel⟩, by decide⟩
theorem im_X11_book : Cond.instanceMethod yX11_book ∈ G_ := G_3 (i := 148) rfl rfl
theorem se_X11_book : Cond.selects yX11_book.cls yX11_book yX11_book ∈ G_ := G_3 (i := 149) rfl rfl
theorem cl_X11_fault : Cl_ yX11_fault cX11_fault 1 (some .int) 0 := ⟨G_4 (i := 2) rfl rfl, G_1 (i := 1) rfl rfl, ⟨by decide +kernel, by decide +kernel, by decide +kernel⟩, by decide⟩
theorem im_X11_fault : Cond.instanceMethod yX11_fault ∈ G_ := G_4 (i := 0) rfl rfl
theorem se_X11_fault : Cond.selects yX11_fault.cls yX11_fault yX11_fault ∈ G_ := G_4 (i := 1) rfl rfl
theorem cl_X11_chap : Cl_ yX11_chap cX11_chap 3 (some .int) 2 := ⟨G_6 (i := 49) rfl rfl, G_1 (i := 1) rfl rfl, ⟨by decide +kernel, by decide +kernel, by decide +kernel⟩, by decide⟩
theorem im_X11_chap : Cond.instanceMethod yX11_chap ∈ G_ := G_6 (i := 47) rfl rfl
theorem se_X11_chap : Cond.selects yX11_chap.cls yX11_chap yX11_chap ∈ G_ := G_6 (i := 48) rfl rfl
theorem cl_X11_leans : Cl_ yX11_leans cX11_leans 3 (some .int) 2 := ⟨G_4 (i := 6) rfl rfl, G_1 (i := 1) rfl rfl, ⟨by decide +kernel, by decide +kernel, by decide +kernel⟩, by decide⟩
theorem im_X11_leans : Cond.instanceMethod yX11_leans ∈ G_ := G_4 (i := 4) rfl rfl
theorem se_X11_leans : Cond.selects yX11_leans.cls yX11_leans yX11_leans ∈ G_ := G_4 (i := 5) rfl rfl
theorem cl_X11_reader : Cl_ yX11_reader cX11_reader 3 (some .int) 2 := ⟨G_6 (i := 121) rfl rfl, G_1 (i := 1) rfl rfl, ⟨by decide +kernel, by decide +kernel, by decide +kernel⟩, by decide⟩
theorem im_X11_reader : Cond.instanceMethod yX11_reader ∈ G_ := G_6 (i := 119) rfl rfl
theorem se_X11_reader : Cond.selects yX11_reader.cls yX11_reader yX11_reader ∈ G_ := G_6 (i := 120) rfl rfl
theorem cl_X11_plan : Cl_ yX11_plan cX11_plan 3 (some .int) 0 := ⟨G_4 (i := 14) rfl rfl, G_1 (i := 1) rfl rfl, ⟨by decide +kernel, by decide +kernel, by decide +kernel⟩, by decide⟩
theorem im_X11_plan : Cond.instanceMethod yX11_plan ∈ G_ := G_4 (i := 12) rfl rfl
theorem se_X11_plan : Cond.selects yX11_plan.cls yX11_plan yX11_plan ∈ G_ := G_4 (i := 13) rfl rfl
theorem cl_X11_make : Cl_ yX11_make cX11_make 3 (some .int) 2 := ⟨G_4 (i := 52) rfl rfl, G_1 (i := 1) rfl rfl, ⟨by decide +kernel, by decide +kernel, by decide +kernel⟩, by decide⟩
theorem im_X11_make : Cond.instanceMethod yX11_make ∈ G_ := G_4 (i := 50) rfl rfl
theorem se_X11_make : Cond.selects yX11_make.cls yX11_make yX11_make ∈ G_ := G_4 (i := 51) rfl rfl
theorem cl_X11_drawn : Cl_ yX11_drawn cX11_drawn 3 (some .int) 2 := ⟨G_4 (i := 187) rfl rfl, G_1 (i := 1) rfl rfl, ⟨by decide +kernel, by decide +kernel, by decide +kernel⟩, by decide⟩
theorem im_X11_drawn : Cond.instanceMethod yX11_drawn ∈ G_ := G_4 (i := 185) rfl rfl
theorem se_X11_drawn : Cond.selects yX11_drawn.cls yX11_drawn yX11_drawn ∈ G_ := G_4 (i := 186) rfl rfl
theorem cl_X11_act : Cl_ yX11_act cX11_act 3 (some .int) 2 := ⟨G_6 (i := 128) rfl rfl, G_1 (i := 1) rfl rfl, ⟨by decide +kernel, by decide +kernel, by decide +kernel⟩, by decide⟩
theorem im_X11_act : Cond.instanceMethod yX11_act ∈ G_ := G_6 (i := 126) rfl rfl
theorem se_X11_act : Cond.selects yX11_act.cls yX11_act yX11_act ∈ G_ := G_6 (i := 127) rfl rfl
theorem cl_X11_run : Cl_ yX11_run cX11_run 1 (some .int) 0 := ⟨G_4 (i := 200) rfl rfl, G_1 (i := 1) rfl rfl, ⟨by decide +kernel, by decide +kernel, by decide +kernel⟩, by decide⟩
theorem im_X11_run : Cond.instanceMethod yX11_run ∈ G_ := G_4 (i := 198) rfl rfl
theorem se_X11_run : Cond.selects yX11_run.cls yX11_run yX11_run ∈ G_ := G_4 (i := 199) rfl rfl
theorem cl_X11_why : Cl_ yX11_why cX11_why 1 (some .int) 0 := ⟨G_4 (i := 215) rfl rfl, G_1 (i := 1) rfl rfl, ⟨by decide +kernel, by decide +kernel, by decide +kernel⟩, by decide⟩
theorem im_X11_why : Cond.instanceMethod yX11_why ∈ G_ := G_4 (i := 213) rfl rfl
theorem se_X11_why : Cond.selects yX11_why.cls yX11_why yX11_why ∈ G_ := G_4 (i := 214) rfl rfl
theorem cl_X11_known : Cl_ yX11_known cX11_known 3 (some .int) 2 := ⟨G_4 (i := 219) rfl rfl, G_1 (i := 1) rfl rfl, ⟨by decide +kernel, by decide +kernel, by decide +kernel⟩, by decide⟩
theorem im_X11_known : Cond.instanceMethod yX11_known ∈ G_ := G_4 (i := 217) rfl rfl
theorem se_X11_known : Cond.selects yX11_known.cls yX11_known yX11_known ∈ G_ := G_4 (i := 218) rfl rfl
theorem cl_X11_after : Cl_ yX11_after cX11_after 3 (some .int) 2 := ⟨G_4 (i := 227) rfl rfl, G_1 (i := 1) rfl rfl, ⟨by decide +kernel, by decide +kernel, by decide +kernel⟩, by decide⟩
theorem im_X11_after : Cond.instanceMethod yX11_after ∈ G_ := G_4 (i := 225) rfl rfl
theorem se_X11_after : Cond.selects yX11_after.cls yX11_after yX11_after ∈ G_ := G_4 (i := 226) rfl rfl
theorem cl_X11_all : Cl_ yX11_all cX11_all 2 (some .int) 1 := ⟨G_4 (i := 235) rfl rfl, G_1 (i := 1) rfl rfl, ⟨by decide +kernel, by decide +kernel, by decide +kernel⟩, by decide⟩
theorem im_X11_all : Cond.instanceMethod yX11_all ∈ G_ := G_4 (i := 233) rfl rfl
theorem se_X11_all : Cond.selects yX11_all.cls yX11_all yX11_all ∈ G_ := G_4 (i := 234) rfl rfl
theorem cl_X11_best : Cl_ yX11_best cX11_best 3 (some .int) 2 := ⟨G_5 (i := 17) rfl rfl, G_1 (i := 1) rfl rfl, ⟨by decide +kernel, by decide +kernel, by decide +kernel⟩, by decide⟩
theorem im_X11_best : Cond.instanceMethod yX11_best ∈ G_ := G_5 (i := 15) rfl rfl
theorem se_X11_best : Cond.selects yX11_best.cls yX11_best yX11_best ∈ G_ := G_5 (i := 16) rfl rfl
theorem cl_X11_bestOf : Cl_ yX11_bestOf cX11_bestOf 2 (some .int) 1 := ⟨G_5 (i := 49) rfl rfl, G_1 (i := 1) rfl rfl, ⟨by decide +kernel, by decide +kernel, by decide +kernel⟩, by decide⟩
theorem im_X11_bestOf : Cond.instanceMethod yX11_bestOf ∈ G_ := G_5 (i := 47) rfl rfl
theorem se_X11_bestOf : Cond.selects yX11_bestOf.cls yX11_bestOf yX11_bestOf ∈ G_ := G_5 (i := 48) rfl rfl
theorem cl_X11_cut : Cl_ yX11_cut cX11_cut 3 (some .int) 2 := ⟨G_5 (i := 53) rfl rfl, G_1 (i := 1) rfl rfl, ⟨by decide +kernel, by decide +kernel, by decide +kernel⟩, by decide⟩
theorem im_X11_cut : Cond.instanceMethod yX11_cut ∈ G_ := G_5 (i := 51) rfl rfl
theorem se_X11_cut : Cond.selects yX11_cut.cls yX11_cut yX11_cut ∈ G_ := G_5 (i := 52) rfl rfl
theorem cl_X11_cutAt : Cl_ yX11_cutAt cX11_cutAt 2 (some .int) 1 := ⟨G_5 (i := 66) rfl rfl, G_1 (i := 1) rfl rfl, ⟨by decide +kernel, by decide +kernel, by decide +kernel⟩, by decide⟩
theorem im_X11_cutAt : Cond.instanceMethod yX11_cutAt ∈ G_ := G_5 (i := 64) rfl rfl
theorem se_X11_cutAt : Cond.selects yX11_cutAt.cls yX11_cutAt yX11_cutAt ∈ G_ := G_5 (i := 65) rfl rfl
theorem cl_X11_net : Cl_ yX11_net cX11_net 3 (some .int) 1 := ⟨G_5 (i := 70) rfl rfl, G_1 (i := 1) rfl rfl, ⟨by decide +kernel, by decide +kernel, by decide +kernel⟩, by decide⟩
theorem im_X11_net : Cond.instanceMethod yX11_net ∈ G_ := G_5 (i := 68) rfl rfl
theorem se_X11_net : Cond.selects yX11_net.cls yX11_net yX11_net ∈ G_ := G_5 (i := 69) rfl rfl
theorem cl_X11_netSide : Cl_ yX11_netSide cX11_netSide 1 (some .int) 0 := ⟨G_5 (i := 93) rfl rfl, G_1 (i := 1) rfl rfl, ⟨by decide +kernel, by decide +kernel, by decide +kernel⟩, by decide⟩
theorem im_X11_netSide : Cond.instanceMethod yX11_netSide ∈ G_ := G_5 (i := 91) rfl rfl
theorem se_X11_netSide : Cond.selects yX11_netSide.cls yX11_netSide yX11_netSide ∈ G_ := G_5 (i := 92) rfl rfl
theorem cl_X11_chain : Cl_ yX11_chain cX11_chain 2 (some .int) 0 := ⟨G_5 (i := 97) rfl rfl, G_1 (i := 1) rfl rfl, ⟨by decide +kernel, by decide +kernel, by decide +kernel⟩, by decide⟩
theorem im_X11_chain : Cond.instanceMethod yX11_chain ∈ G_ := G_5 (i := 95) rfl rfl
theorem se_X11_chain : Cond.selects yX11_chain.cls yX11_chain yX11_chain ∈ G_ := G_5 (i := 96) rfl rfl
theorem cl_X11_chainAt : Cl_ yX11_chainAt cX11_chainAt 2 (some .int) 1 := ⟨G_5 (i := 114) rfl rfl, G_1 (i := 1) rfl rfl, ⟨by decide +kernel, by decide +kernel, by decide +kernel⟩, by decide⟩
theorem im_X11_chainAt : Cond.instanceMethod yX11_chainAt ∈ G_ := G_5 (i := 112) rfl rfl
theorem se_X11_chainAt : Cond.selects yX11_chainAt.cls yX11_chainAt yX11_chainAt ∈ G_ := G_5 (i := 113) rfl rfl
theorem cl_X11_alone : Cl_ yX11_alone cX11_alone 3 (some .int) 2 := ⟨G_5 (i := 118) rfl rfl, G_1 (i := 1) rfl rfl, ⟨by decide +kernel, by decide +kernel, by decide +kernel⟩, by decide⟩
theorem im_X11_alone : Cond.instanceMethod yX11_alone ∈ G_ := G_5 (i := 116) rfl rfl
theorem se_X11_alone : Cond.selects yX11_alone.cls yX11_alone yX11_alone ∈ G_ := G_5 (i := 117) rfl rfl
theorem cl_X11_leave : Cl_ yX11_leave cX11_leave 2 (some .int) 1 := ⟨G_5 (i := 128) rfl rfl, G_1 (i := 1) rfl rfl, ⟨by decide +kernel, by decide +kernel, by decide +kernel⟩, by decide⟩
theorem im_X11_leave : Cond.instanceMethod yX11_leave ∈ G_ := G_5 (i := 126) rfl rfl
theorem se_X11_leave : Cond.selects yX11_leave.cls yX11_leave yX11_leave ∈ G_ := G_5 (i := 127) rfl rfl
theorem cl_X11_extra : Cl_ yX11_extra cX11_extra 2 (some .int) 1 := ⟨G_5 (i := 140) rfl rfl, G_1 (i := 1) rfl rfl, ⟨by decide +kernel, by decide +kernel, by decide +kernel⟩, by decide⟩
theorem im_X11_extra : Cond.instanceMethod yX11_extra ∈ G_ := G_5 (i := 138) rfl rfl
theorem se_X11_extra : Cond.selects yX11_extra.cls yX11_extra yX11_extra ∈ G_ := G_5 (i := 139) rfl rfl
theorem cl_X11_ask : Cl_ yX11_ask cX11_ask 2 (some .int) 0 := ⟨G_5 (i := 152) rfl rfl, G_1 (i := 1) rfl rfl, ⟨by decide +kernel, by decide +kernel, by decide +kernel⟩, by decide⟩
theorem im_X11_ask : Cond.instanceMethod yX11_ask ∈ G_ := G_5 (i := 150) rfl rfl
theorem se_X11_ask : Cond.selects yX11_ask.cls yX11_ask yX11_ask ∈ G_ := G_5 (i := 151) rfl rfl
theorem cl_X11_asked : Cl_ yX11_asked cX11_asked 1 (some .int) 0 := ⟨G_5 (i := 171) rfl rfl, G_1 (i := 1) rfl rfl, ⟨by decide +kernel, by decide +kernel, by decide +kernel⟩, by decide⟩
theorem im_X11_asked : Cond.instanceMethod yX11_asked ∈ G_ := G_5 (i := 169) rfl rfl
theorem se_X11_asked : Cond.selects yX11_asked.cls yX11_asked yX11_asked ∈ G_ := G_5 (i := 170) rfl rfl
theorem cl_X11_seen : Cl_ yX11_seen cX11_seen 9 (some .int) 2 := ⟨G_5 (i := 175) rfl rfl, G_1 (i := 1) rfl rfl, ⟨by decide +kernel, by decide +kernel, by decide +kernel⟩, by decide⟩
theorem im_X11_seen : Cond.instanceMethod yX11_seen ∈ G_ := G_5 (i := 173) rfl rfl
theorem se_X11_seen : Cond.selects yX11_seen.cls yX11_seen yX11_seen ∈ G_ := G_5 (i := 174) rfl rfl
theorem cl_X11_ill : Cl_ yX11_ill cX11_ill 4 (some .int) 3 := ⟨G_5 (i := 182) rfl rfl, G_1 (i := 1) rfl rfl, ⟨by decide +kernel, by decide +kernel, by decide +kernel⟩, by decide⟩
theorem im_X11_ill : Cond.instanceMethod yX11_ill ∈ G_ := G_5 (i := 180) rfl rfl
theorem se_X11_ill : Cond.selects yX11_ill.cls yX11_ill yX11_ill ∈ G_ := G_5 (i := 181) rfl rfl
theorem cl_X11_sentence : Cl_ yX11_sentence cX11_sentence 3 (some .int) 0 := ⟨G_5 (i := 207) rfl rfl, G_1 (i := 1) rfl rfl, ⟨by decide +kernel, by decide +kernel, by decide +kernel⟩, by decide⟩
theorem im_X11_sentence : Cond.instanceMethod yX11_sentence ∈ G_ := G_5 (i := 205) rfl rfl
theorem se_X11_sentence : Cond.selects yX11_sentence.cls yX11_sentence yX11_sentence ∈ G_ := G_5 (i := 206) rfl rfl
theorem cl_X11_said : Cl_ yX11_said cX11_said 3 (some .int) 0 := ⟨G_6 (i := 0) rfl rfl, G_1 (i := 1) rfl rfl, ⟨by decide +kernel, by decide +kernel, by decide +kernel⟩, by decide⟩
theorem im_X11_said : Cond.instanceMethod yX11_said ∈ G_ := G_5 (i := 238) rfl rfl
theorem se_X11_said : Cond.selects yX11_said.cls yX11_said yX11_said ∈ G_ := G_5 (i := 239) rfl rfl
theorem cl_X11_image : Cl_ yX11_image cX11_image 2 (some .boolean) 1 := ⟨G_6 (i := 18) rfl rfl, G_1 (i := 1) rfl rfl, ⟨by decide +kernel, by decide +kernel, by decide +kernel⟩, by decide⟩
theorem im_X11_image : Cond.instanceMethod yX11_image ∈ G_ := G_6 (i := 16) rfl rfl
theorem se_X11_image : Cond.selects yX11_image.cls yX11_image yX11_image ∈ G_ := G_6 (i := 17) rfl rfl
theorem cl_X11_restore : Cl_ yX11_restore cX11_restore 2 (some .boolean) 1 := ⟨G_6 (i := 37) rfl rfl, G_1 (i := 1) rfl rfl, ⟨by decide +kernel, by decide +kernel, by decide +kernel⟩, by decide⟩
theorem im_X11_restore : Cond.instanceMethod yX11_restore ∈ G_ := G_6 (i := 35) rfl rfl
theorem se_X11_restore : Cond.selects yX11_restore.cls yX11_restore yX11_restore ∈ G_ := G_6 (i := 36) rfl rfl
theorem cl_X11_count : Cl_ yX11_count cX11_count 2 (some .int) 1 := ⟨G_6 (i := 41) rfl rfl, G_1 (i := 1) rfl rfl, ⟨by decide +kernel, by decide +kernel, by decide +kernel⟩, by decide⟩
theorem im_X11_count : Cond.instanceMethod yX11_count ∈ G_ := G_6 (i := 39) rfl rfl
theorem se_X11_count : Cond.selects yX11_count.cls yX11_count yX11_count ∈ G_ := G_6 (i := 40) rfl rfl
theorem cl_X11_runOnce : Cl_ yX11_runOnce cX11_runOnce 1 (none) 0 := ⟨G_4 (i := 204) rfl rfl, G_1 (i := 1) rfl rfl, ⟨by decide +kernel, by decide +kernel, by decide +kernel⟩, by decide⟩
theorem im_X11_runOnce : Cond.instanceMethod yX11_runOnce ∈ G_ := G_4 (i := 203) rfl rfl
theorem se_X11_runOnce : Cond.selects yX11_runOnce.cls yX11_runOnce yX11_runOnce ∈ G_ := G_s (i := 26) rfl rfl
theorem cl_X12_thrown : Cl_ yX12_thrown cX12_thrown 1 (some .int) 0 := ⟨G_7 (i := 89) rfl rfl, G_1 (i := 17) rfl rfl, ⟨by decide +kernel, by decide +kernel, by decide +kernel⟩, by decide⟩
theorem im_X12_thrown : Cond.instanceMethod yX12_thrown ∈ G_ := G_7 (i := 87) rfl rfl
theorem se_X12_thrown : Cond.selects yX12_thrown.cls yX12_thrown yX12_thrown ∈ G_ := G_7 (i := 88) rfl rfl
theorem cl_X12_refuse : Cl_ yX12_refuse cX12_refuse 1 (some .int) 0 := ⟨G_7 (i := 209) rfl rfl, G_1 (i := 17) rfl rfl, ⟨by decide +kernel, by decide +kernel, by decide +kernel⟩, by decide⟩
theorem im_X12_refuse : Cond.instanceMethod yX12_refuse ∈ G_ := G_7 (i := 208) rfl rfl
theorem se_X12_refuse : Cond.selects yX12_refuse.cls yX12_refuse yX12_refuse ∈ G_ := G_s (i := 64) rfl rfl
theorem cl_X12_come : Cl_ yX12_come cX12_come 3 (none) 1 := ⟨G_7 (i := 97) rfl rfl, G_1 (i := 17) rfl rfl, ⟨by decide +kernel, by decide +kernel, by decide +kernel⟩, by decide⟩
theorem im_X12_come : Cond.instanceMethod yX12_come ∈ G_ := G_7 (i := 96) rfl rfl
theorem se_X12_come : Cond.selects yX12_come.cls yX12_come yX12_come ∈ G_ := G_s (i := 45) rfl rfl
theorem cl_X12_feed : Cl_ yX12_feed cX12_feed 6 (some .int) 5 := ⟨G_7 (i := 93) rfl rfl, G_1 (i := 17) rfl rfl, ⟨by decide +kernel, by decide +kernel, by decide +kernel⟩, by decide⟩
theorem im_X12_feed : Cond.instanceMethod yX12_feed ∈ G_ := G_7 (i := 91) rfl rfl
theorem se_X12_feed : Cond.selects yX12_feed.cls yX12_feed yX12_feed ∈ G_ := G_7 (i := 92) rfl rfl
theorem cl_X12_end : Cl_ yX12_end cX12_end 2 (some .boolean) 1 := ⟨G_7 (i := 101) rfl rfl, G_1 (i := 17) rfl rfl, ⟨by decide +kernel, by decide +kernel, by decide +kernel⟩, by decide⟩
theorem im_X12_end : Cond.instanceMethod yX12_end ∈ G_ := G_7 (i := 99) rfl rfl
theorem se_X12_end : Cond.selects yX12_end.cls yX12_end yX12_end ∈ G_ := G_7 (i := 100) rfl rfl
theorem cl_X12_take : Cl_ yX12_take cX12_take 2 (some .int) 0 := ⟨G_7 (i := 117) rfl rfl, G_1 (i := 17) rfl rfl, ⟨by decide +kernel, by decide +kernel, by decide +kernel⟩, by decide⟩
theorem im_X12_take : Cond.instanceMethod yX12_take ∈ G_ := G_7 (i := 116) rfl rfl
theorem se_X12_take : Cond.selects yX12_take.cls yX12_take yX12_take ∈ G_ := G_s (i := 48) rfl rfl
theorem cl_X12_isIn : Cl_ yX12_isIn cX12_isIn 3 (some .boolean) 3 := ⟨G_7 (i := 174) rfl rfl, G_1 (i := 17) rfl rfl, ⟨by decide +kernel, by decide +kernel, by decide +kernel⟩, by decide⟩
theorem sm_X12_isIn : Cond.static yX12_isIn ∈ G_ := G_7 (i := 173) rfl rfl
theorem cl_X12_has : Cl_ yX12_has cX12_has 2 (some .boolean) 2 := ⟨G_7 (i := 189) rfl rfl, G_1 (i := 17) rfl rfl, ⟨by decide +kernel, by decide +kernel, by decide +kernel⟩, by decide⟩
theorem sm_X12_has : Cond.static yX12_has ∈ G_ := G_7 (i := 188) rfl rfl
theorem cl_X12_bits : Cl_ yX12_bits cX12_bits 3 (some .int) 1 := ⟨G_8 (i := 226) rfl rfl, G_1 (i := 17) rfl rfl, ⟨by decide +kernel, by decide +kernel, by decide +kernel⟩, by decide⟩
theorem sm_X12_bits : Cond.static yX12_bits ∈ G_ := G_8 (i := 225) rfl rfl
theorem cl_X12_byteAt : Cl_ yX12_byteAt cX12_byteAt 2 (some .int) 1 := ⟨G_7 (i := 131) rfl rfl, G_1 (i := 17) rfl rfl, ⟨by decide +kernel, by decide +kernel, by decide +kernel⟩, by decide⟩
theorem im_X12_byteAt : Cond.instanceMethod yX12_byteAt ∈ G_ := G_7 (i := 130) rfl rfl
theorem se_X12_byteAt : Cond.selects yX12_byteAt.cls yX12_byteAt yX12_byteAt ∈ G_ := G_s (i := 50) rfl rfl
theorem cl_X12_isDigit : Cl_ yX12_isDigit cX12_isDigit 1 (some .boolean) 1 := ⟨G_7 (i := 127) rfl rfl, G_1 (i := 17) rfl rfl, ⟨by decide +kernel, by decide +kernel, by decide +kernel⟩, by decide⟩
theorem sm_X12_isDigit : Cond.static yX12_isDigit ∈ G_ := G_7 (i := 126) rfl rfl
theorem cl_X12_isLetter : Cl_ yX12_isLetter cX12_isLetter 1 (some .boolean) 1 := ⟨G_7 (i := 124) rfl rfl, G_1 (i := 17) rfl rfl, ⟨by decide +kernel, by decide +kernel, by decide +kernel⟩, by decide⟩
theorem sm_X12_isLetter : Cond.static yX12_isLetter ∈ G_ := G_7 (i := 123) rfl rfl
theorem cl_X12_go : Cl_ yX12_go cX12_go 5 (none) 0 := ⟨G_7 (i := 121) rfl rfl, G_1 (i := 17) rfl rfl, ⟨by decide +kernel, by decide +kernel, by decide +kernel⟩, by decide⟩
theorem im_X12_go : Cond.instanceMethod yX12_go ∈ G_ := G_7 (i := 120) rfl rfl
theorem se_X12_go : Cond.selects yX12_go.cls yX12_go yX12_go ∈ G_ := G_s (i := 49) rfl rfl
theorem cl_X12_spelt : Cl_ yX12_spelt cX12_spelt 7 (some .long) 5 := ⟨G_7 (i := 147) rfl rfl, G_1 (i := 17) rfl rfl, ⟨by decide +kernel, by decide +kernel, by decide +kernel⟩, by decide⟩
theorem sm_X12_spelt : Cond.static yX12_spelt ∈ G_ := G_7 (i := 146) rfl rfl
theorem cl_X12_wordOf : Cl_ yX12_wordOf cX12_wordOf 1 (some .long) 1 := ⟨G_7 (i := 144) rfl rfl, G_1 (i := 17) rfl rfl, ⟨by decide +kernel, by decide +kernel, by decide +kernel⟩, by decide⟩
theorem sm_X12_wordOf : Cond.static yX12_wordOf ∈ G_ := G_7 (i := 143) rfl rfl
theorem cl_X12_isWord : Cl_ yX12_isWord cX12_isWord 2 (some .boolean) 1 := ⟨G_7 (i := 141) rfl rfl, G_1 (i := 17) rfl rfl, ⟨by decide +kernel, by decide +kernel, by decide +kernel⟩, by decide⟩
theorem im_X12_isWord : Cond.instanceMethod yX12_isWord ∈ G_ := G_7 (i := 140) rfl rfl
theorem se_X12_isWord : Cond.selects yX12_isWord.cls yX12_isWord yX12_isWord ∈ G_ := G_s (i := 52) rfl rfl
theorem cl_X12_isSign : Cl_ yX12_isSign cX12_isSign 2 (some .boolean) 1 := ⟨G_7 (i := 186) rfl rfl, G_1 (i := 17) rfl rfl, ⟨by decide +kernel, by decide +kernel, by decide +kernel⟩, by decide⟩
theorem im_X12_isSign : Cond.instanceMethod yX12_isSign ∈ G_ := G_7 (i := 185) rfl rfl
theorem se_X12_isSign : Cond.selects yX12_isSign.cls yX12_isSign yX12_isSign ∈ G_ := G_s (i := 61) rfl rfl
theorem cl_X12_isName : Cl_ yX12_isName cX12_isName 2 (some .boolean) 0 := ⟨G_7 (i := 163) rfl rfl, G_1 (i := 17) rfl rfl, ⟨by decide +kernel, by decide +kernel, by decide +kernel⟩, by decide⟩
theorem im_X12_isName : Cond.instanceMethod yX12_isName ∈ G_ := G_7 (i := 162) rfl rfl
theorem se_X12_isName : Cond.selects yX12_isName.cls yX12_isName yX12_isName ∈ G_ := G_s (i := 56) rfl rfl
theorem cl_X12_bad : Cl_ yX12_bad cX12_bad 2 (some .boolean) 1 := ⟨G_7 (i := 151) rfl rfl, G_1 (i := 17) rfl rfl, ⟨by decide +kernel, by decide +kernel, by decide +kernel⟩, by decide⟩
theorem im_X12_bad : Cond.instanceMethod yX12_bad ∈ G_ := G_7 (i := 150) rfl rfl
theorem se_X12_bad : Cond.selects yX12_bad.cls yX12_bad yX12_bad ∈ G_ := G_s (i := 53) rfl rfl
theorem cl_X12_readNumber : Cl_ yX12_readNumber cX12_readNumber 3 (some .boolean) 2 := ⟨G_7 (i := 171) rfl rfl, G_1 (i := 17) rfl rfl, ⟨by decide +kernel, by decide +kernel, by decide +kernel⟩, by decide⟩
theorem im_X12_readNumber : Cond.instanceMethod yX12_readNumber ∈ G_ := G_7 (i := 170) rfl rfl
theorem se_X12_readNumber : Cond.selects yX12_readNumber.cls yX12_readNumber yX12_readNumber ∈ G_ := G_s (i := 58) rfl rfl
theorem cl_X12_readEnd : Cl_ yX12_readEnd cX12_readEnd 1 (some .boolean) 0 := ⟨G_7 (i := 182) rfl rfl, G_1 (i := 17) rfl rfl, ⟨by decide +kernel, by decide +kernel, by decide +kernel⟩, by decide⟩
theorem im_X12_readEnd : Cond.instanceMethod yX12_readEnd ∈ G_ := G_7 (i := 181) rfl rfl
theorem se_X12_readEnd : Cond.selects yX12_readEnd.cls yX12_readEnd yX12_readEnd ∈ G_ := G_s (i := 60) rfl rfl
theorem cl_X12_begin : Cl_ yX12_begin cX12_begin 2 (none) 1 := ⟨G_7 (i := 109) rfl rfl, G_1 (i := 17) rfl rfl, ⟨by decide +kernel, by decide +kernel, by decide +kernel⟩, by decide⟩
theorem im_X12_begin : Cond.instanceMethod yX12_begin ∈ G_ := G_7 (i := 108) rfl rfl
theorem se_X12_begin : Cond.selects yX12_begin.cls yX12_begin yX12_begin ∈ G_ := G_s (i := 46) rfl rfl
theorem cl_X12_lay : Cl_ yX12_lay cX12_lay 1 (none) 0 := ⟨G_7 (i := 113) rfl rfl, G_1 (i := 17) rfl rfl, ⟨by decide +kernel, by decide +kernel, by decide +kernel⟩, by decide⟩
theorem im_X12_lay : Cond.instanceMethod yX12_lay ∈ G_ := G_7 (i := 112) rfl rfl
theorem se_X12_lay : Cond.selects yX12_lay.cls yX12_lay yX12_lay ∈ G_ := G_s (i := 47) rfl rfl
theorem cl_X12_chaps : Cl_ yX12_chaps cX12_chaps 1 (some .int) 0 := ⟨G_7 (i := 205) rfl rfl, G_1 (i := 17) rfl rfl, ⟨by decide +kernel, by decide +kernel, by decide +kernel⟩, by decide⟩
theorem im_X12_chaps : Cond.instanceMethod yX12_chaps ∈ G_ := G_7 (i := 204) rfl rfl
theorem se_X12_chaps : Cond.selects yX12_chaps.cls yX12_chaps yX12_chaps ∈ G_ := G_s (i := 63) rfl rfl
theorem cl_X12_readers : Cl_ yX12_readers cX12_readers 1 (some .int) 0 := ⟨G_7 (i := 233) rfl rfl, G_1 (i := 17) rfl rfl, ⟨by decide +kernel, by decide +kernel, by decide +kernel⟩, by decide⟩
theorem im_X12_readers : Cond.instanceMethod yX12_readers ∈ G_ := G_7 (i := 232) rfl rfl
theorem se_X12_readers : Cond.selects yX12_readers.cls yX12_readers yX12_readers ∈ G_ := G_s (i := 68) rfl rfl
theorem cl_X12_isChap : Cl_ yX12_isChap cX12_isChap 2 (some .boolean) 1 := ⟨G_7 (i := 201) rfl rfl, G_1 (i := 17) rfl rfl, ⟨by decide +kernel, by decide +kernel, by decide +kernel⟩, by decide⟩
theorem im_X12_isChap : Cond.instanceMethod yX12_isChap ∈ G_ := G_7 (i := 200) rfl rfl
theorem se_X12_isChap : Cond.selects yX12_isChap.cls yX12_isChap yX12_isChap ∈ G_ := G_s (i := 62) rfl rfl
theorem cl_X12_isReader : Cl_ yX12_isReader cX12_isReader 2 (some .boolean) 1 := ⟨G_7 (i := 229) rfl rfl, G_1 (i := 17) rfl rfl, ⟨by decide +kernel, by decide +kernel, by decide +kernel⟩, by decide⟩
theorem im_X12_isReader : Cond.instanceMethod yX12_isReader ∈ G_ := G_7 (i := 228) rfl rfl
theorem se_X12_isReader : Cond.selects yX12_isReader.cls yX12_isReader yX12_isReader ∈ G_ := G_s (i := 67) rfl rfl
theorem cl_X12_chapOf : Cl_ yX12_chapOf cX12_chapOf 3 (some .int) 2 := ⟨G_7 (i := 213) rfl rfl, G_1 (i := 17) rfl rfl, ⟨by decide +kernel, by decide +kernel, by decide +kernel⟩, by decide⟩
theorem im_X12_chapOf : Cond.instanceMethod yX12_chapOf ∈ G_ := G_7 (i := 212) rfl rfl
theorem se_X12_chapOf : Cond.selects yX12_chapOf.cls yX12_chapOf yX12_chapOf ∈ G_ := G_s (i := 65) rfl rfl
theorem cl_X12_readerOf : Cl_ yX12_readerOf cX12_readerOf 3 (some .int) 2 := ⟨G_7 (i := 237) rfl rfl, G_1 (i := 17) rfl rfl, ⟨by decide +kernel, by decide +kernel, by decide +kernel⟩, by decide⟩
theorem im_X12_readerOf : Cond.instanceMethod yX12_readerOf ∈ G_ := G_7 (i := 236) rfl rfl
theorem se_X12_readerOf : Cond.selects yX12_readerOf.cls yX12_readerOf yX12_readerOf ∈ G_ := G_s (i := 69) rfl rfl
theorem cl_X12_leanOf : Cl_ yX12_leanOf cX12_leanOf 3 (some .int) 2 := ⟨G_7 (i := 217) rfl rfl, G_1 (i := 17) rfl rfl, ⟨by decide +kernel, by decide +kernel, by decide +kernel⟩, by decide⟩
theorem im_X12_leanOf : Cond.instanceMethod yX12_leanOf ∈ G_ := G_7 (i := 216) rfl rfl
theorem se_X12_leanOf : Cond.selects yX12_leanOf.cls yX12_leanOf yX12_leanOf ∈ G_ := G_s (i := 66) rfl rfl
theorem cl_X12_findRead : Cl_ yX12_findRead cX12_findRead 2 (some .int) 0 := ⟨G_7 (i := 167) rfl rfl, G_1 (i := 17) rfl rfl, ⟨by decide +kernel, by decide +kernel, by decide +kernel⟩, by decide⟩
theorem im_X12_findRead : Cond.instanceMethod yX12_findRead ∈ G_ := G_7 (i := 166) rfl rfl
theorem se_X12_findRead : Cond.selects yX12_findRead.cls yX12_findRead yX12_findRead ∈ G_ := G_s (i := 57) rfl rfl
theorem cl_X12_readNew : Cl_ yX12_readNew cX12_readNew 2 (some .boolean) 1 := ⟨G_7 (i := 159) rfl rfl, G_1 (i := 17) rfl rfl, ⟨by decide +kernel, by decide +kernel, by decide +kernel⟩, by decide⟩
theorem im_X12_readNew : Cond.instanceMethod yX12_readNew ∈ G_ := G_7 (i := 158) rfl rfl
theorem se_X12_readNew : Cond.selects yX12_readNew.cls yX12_readNew yX12_readNew ∈ G_ := G_s (i := 55) rfl rfl
theorem cl_X12_readChap : Cl_ yX12_readChap cX12_readChap 4 (some .boolean) 0 := ⟨G_7 (i := 155) rfl rfl, G_1 (i := 17) rfl rfl, ⟨by decide +kernel, by decide +kernel, by decide +kernel⟩, by decide⟩
theorem im_X12_readChap : Cond.instanceMethod yX12_readChap ∈ G_ := G_7 (i := 154) rfl rfl
theorem se_X12_readChap : Cond.selects yX12_readChap.cls yX12_readChap yX12_readChap ∈ G_ := G_s (i := 54) rfl rfl
theorem cl_X12_readWho : Cl_ yX12_readWho cX12_readWho 3 (some .boolean) 0 := ⟨G_7 (i := 178) rfl rfl, G_1 (i := 17) rfl rfl, ⟨by decide +kernel, by decide +kernel, by decide +kernel⟩, by decide⟩
theorem im_X12_readWho : Cond.instanceMethod yX12_readWho ∈ G_ := G_7 (i := 177) rfl rfl
theorem se_X12_readWho : Cond.selects yX12_readWho.cls yX12_readWho yX12_readWho ∈ G_ := G_s (i := 59) rfl rfl
theorem cl_X12_readLine : Cl_ yX12_readLine cX12_readLine 2 (some .boolean) 0 := ⟨G_7 (i := 137) rfl rfl, G_1 (i := 17) rfl rfl, ⟨by decide +kernel, by decide +kernel, by decide +kernel⟩, by decide⟩
theorem im_X12_readLine : Cond.instanceMethod yX12_readLine ∈ G_ := G_7 (i := 136) rfl rfl
theorem se_X12_readLine : Cond.selects yX12_readLine.cls yX12_readLine yX12_readLine ∈ G_ := G_s (i := 51) rfl rfl
theorem cl_X12_book : Cl_ yX12_book cX12_book 3 (some .int) 0 := ⟨G_7 (i := 105) rfl rfl, G_1 (i := 17) rfl rfl, ⟨by decide +kernel, by decide +kernel, by decide +kernel⟩, by decide⟩
theorem im_X12_book : Cond.instanceMethod yX12_book ∈ G_ := G_7 (i := 103) rfl rfl
theorem se_X12_book : Cond.selects yX12_book.cls yX12_book yX12_book ∈ G_ := G_7 (i := 104) rfl rfl
theorem cl_X12_fault : Cl_ yX12_fault cX12_fault 1 (some .int) 0 := ⟨G_7 (i := 193) rfl rfl, G_1 (i := 17) rfl rfl, ⟨by decide +kernel, by decide +kernel, by decide +kernel⟩, by decide⟩
theorem im_X12_fault : Cond.instanceMethod yX12_fault ∈ G_ := G_7 (i := 191) rfl rfl
theorem se_X12_fault : Cond.selects yX12_fault.cls yX12_fault yX12_fault ∈ G_ := G_7 (i := 192) rfl rfl
theorem cl_X12_chap : Cl_ yX12_chap cX12_chap 5 (some .int) 2 := ⟨G_7 (i := 197) rfl rfl, G_1 (i := 17) rfl rfl, ⟨by decide +kernel, by decide +kernel, by decide +kernel⟩, by decide⟩
theorem im_X12_chap : Cond.instanceMethod yX12_chap ∈ G_ := G_7 (i := 195) rfl rfl
theorem se_X12_chap : Cond.selects yX12_chap.cls yX12_chap yX12_chap ∈ G_ := G_7 (i := 196) rfl rfl
theorem cl_X12_leans : Cl_ yX12_leans cX12_leans 3 (some .int) 2 := ⟨G_7 (i := 221) rfl rfl, G_1 (i := 17) rfl rfl, ⟨by decide +kernel, by decide +kernel, by decide +kernel⟩, by decide⟩
theorem im_X12_leans : Cond.instanceMethod yX12_leans ∈ G_ := G_7 (i := 219) rfl rfl
theorem se_X12_leans : Cond.selects yX12_leans.cls yX12_leans yX12_leans ∈ G_ := G_7 (i := 220) rfl rfl
theorem cl_X12_reader : Cl_ yX12_reader cX12_reader 3 (some .int) 2 := ⟨G_7 (i := 225) rfl rfl, G_1 (i := 17) rfl rfl, ⟨by decide +kernel, by decide +kernel, by decide +kernel⟩, by decide⟩
theorem im_X12_reader : Cond.instanceMethod yX12_reader ∈ G_ := G_7 (i := 223) rfl rfl
theorem se_X12_reader : Cond.selects yX12_reader.cls yX12_reader yX12_reader ∈ G_ := G_7 (i := 224) rfl rfl
theorem cl_X12_addAct : Cl_ yX12_addAct cX12_addAct 5 (some .boolean) 4 := ⟨G_8 (i := 17) rfl rfl, G_1 (i := 17) rfl rfl, ⟨by decide +kernel, by decide +kernel, by decide +kernel⟩, by decide⟩
theorem im_X12_addAct : Cond.instanceMethod yX12_addAct ∈ G_ := G_8 (i := 16) rfl rfl
theorem se_X12_addAct : Cond.selects yX12_addAct.cls yX12_addAct yX12_addAct ∈ G_ := G_s (i := 73) rfl rfl
theorem cl_X12_plans : Cl_ yX12_plans cX12_plans 2 (some .int) 0 := ⟨G_8 (i := 25) rfl rfl, G_1 (i := 17) rfl rfl, ⟨by decide +kernel, by decide +kernel, by decide +kernel⟩, by decide⟩
theorem im_X12_plans : Cond.instanceMethod yX12_plans ∈ G_ := G_8 (i := 24) rfl rfl
theorem se_X12_plans : Cond.selects yX12_plans.cls yX12_plans yX12_plans ∈ G_ := G_s (i := 75) rfl rfl
theorem cl_X12_named : Cl_ yX12_named cX12_named 4 (some .int) 2 := ⟨G_8 (i := 9) rfl rfl, G_1 (i := 17) rfl rfl, ⟨by decide +kernel, by decide +kernel, by decide +kernel⟩, by decide⟩
theorem im_X12_named : Cond.instanceMethod yX12_named ∈ G_ := G_8 (i := 8) rfl rfl
theorem se_X12_named : Cond.selects yX12_named.cls yX12_named yX12_named ∈ G_ := G_s (i := 71) rfl rfl
theorem cl_X12_readNamed : Cl_ yX12_readNamed cX12_readNamed 4 (some .boolean) 2 := ⟨G_8 (i := 13) rfl rfl, G_1 (i := 17) rfl rfl, ⟨by decide +kernel, by decide +kernel, by decide +kernel⟩, by decide⟩
theorem im_X12_readNamed : Cond.instanceMethod yX12_readNamed ∈ G_ := G_8 (i := 12) rfl rfl
theorem se_X12_readNamed : Cond.selects yX12_readNamed.cls yX12_readNamed yX12_readNamed ∈ G_ := G_s (i := 72) rfl rfl
theorem cl_X12_readListeners : Cl_ yX12_readListeners cX12_readListeners 4 (some .boolean) 1 := ⟨G_8 (i := 21) rfl rfl, G_1 (i := 17) rfl rfl, ⟨by decide +kernel, by decide +kernel, by decide +kernel⟩, by decide⟩
theorem im_X12_readListeners : Cond.instanceMethod yX12_readListeners ∈ G_ := G_8 (i := 20) rfl rfl
theorem se_X12_readListeners : Cond.selects yX12_readListeners.cls yX12_readListeners yX12_readListeners ∈ G_ := G_s (i := 74) rfl rfl
theorem cl_X12_readAct : Cl_ yX12_readAct cX12_readAct 5 (some .boolean) 0 := ⟨G_8 (i := 5) rfl rfl, G_1 (i := 17) rfl rfl, ⟨by decide +kernel, by decide +kernel, by decide +kernel⟩, by decide⟩
theorem im_X12_readAct : Cond.instanceMethod yX12_readAct ∈ G_ := G_8 (i := 4) rfl rfl
theorem se_X12_readAct : Cond.selects yX12_readAct.cls yX12_readAct yX12_readAct ∈ G_ := G_s (i := 70) rfl rfl
theorem cl_X12_plan : Cl_ yX12_plan cX12_plan 1 (some .int) 0 := ⟨G_8 (i := 1) rfl rfl, G_1 (i := 17) rfl rfl, ⟨by decide +kernel, by decide +kernel, by decide +kernel⟩, by decide⟩
theorem im_X12_plan : Cond.instanceMethod yX12_plan ∈ G_ := G_7 (i := 239) rfl rfl
theorem se_X12_plan : Cond.selects yX12_plan.cls yX12_plan yX12_plan ∈ G_ := G_8 (i := 0) rfl rfl
theorem cl_X12_act : Cl_ yX12_act cX12_act 3 (some .int) 2 := ⟨G_8 (i := 29) rfl rfl, G_1 (i := 17) rfl rfl, ⟨by decide +kernel, by decide +kernel, by decide +kernel⟩, by decide⟩
theorem im_X12_act : Cond.instanceMethod yX12_act ∈ G_ := G_8 (i := 27) rfl rfl
theorem se_X12_act : Cond.selects yX12_act.cls yX12_act yX12_act ∈ G_ := G_8 (i := 28) rfl rfl
theorem cl_X12_dawn : Cl_ yX12_dawn cX12_dawn 2 (none) 0 := ⟨G_8 (i := 41) rfl rfl, G_1 (i := 17) rfl rfl, ⟨by decide +kernel, by decide +kernel, by decide +kernel⟩, by decide⟩
theorem im_X12_dawn : Cond.instanceMethod yX12_dawn ∈ G_ := G_8 (i := 40) rfl rfl
theorem se_X12_dawn : Cond.selects yX12_dawn.cls yX12_dawn yX12_dawn ∈ G_ := G_s (i := 77) rfl rfl
theorem cl_X12_lackOf : Cl_ yX12_lackOf cX12_lackOf 5 (some .int) 2 := ⟨G_8 (i := 69) rfl rfl, G_1 (i := 17) rfl rfl, ⟨by decide +kernel, by decide +kernel, by decide +kernel⟩, by decide⟩
theorem im_X12_lackOf : Cond.instanceMethod yX12_lackOf ∈ G_ := G_8 (i := 68) rfl rfl
theorem se_X12_lackOf : Cond.selects yX12_lackOf.cls yX12_lackOf yX12_lackOf ∈ G_ := G_s (i := 83) rfl rfl
theorem cl_X12_up : Cl_ yX12_up cX12_up 2 (some .int) 2 := ⟨G_8 (i := 52) rfl rfl, G_1 (i := 17) rfl rfl, ⟨by decide +kernel, by decide +kernel, by decide +kernel⟩, by decide⟩
theorem sm_X12_up : Cond.static yX12_up ∈ G_ := G_8 (i := 51) rfl rfl
theorem cl_X12_timeToRead : Cl_ yX12_timeToRead cX12_timeToRead 3 (some .int) 2 := ⟨G_8 (i := 49) rfl rfl, G_1 (i := 17) rfl rfl, ⟨by decide +kernel, by decide +kernel, by decide +kernel⟩, by decide⟩
theorem im_X12_timeToRead : Cond.instanceMethod yX12_timeToRead ∈ G_ := G_8 (i := 48) rfl rfl
theorem se_X12_timeToRead : Cond.selects yX12_timeToRead.cls yX12_timeToRead yX12_timeToRead ∈ G_ := G_s (i := 79) rfl rfl
theorem cl_X12_timeToTell : Cl_ yX12_timeToTell cX12_timeToTell 3 (some .int) 2 := ⟨G_8 (i := 56) rfl rfl, G_1 (i := 17) rfl rfl, ⟨by decide +kernel, by decide +kernel, by decide +kernel⟩, by decide⟩
theorem im_X12_timeToTell : Cond.instanceMethod yX12_timeToTell ∈ G_ := G_8 (i := 55) rfl rfl
theorem se_X12_timeToTell : Cond.selects yX12_timeToTell.cls yX12_timeToTell yX12_timeToTell ∈ G_ := G_s (i := 80) rfl rfl
theorem cl_X12_reads : Cl_ yX12_reads cX12_reads 4 (none) 2 := ⟨G_8 (i := 64) rfl rfl, G_1 (i := 17) rfl rfl, ⟨by decide +kernel, by decide +kernel, by decide +kernel⟩, by decide⟩
theorem im_X12_reads : Cond.instanceMethod yX12_reads ∈ G_ := G_8 (i := 63) rfl rfl
theorem se_X12_reads : Cond.selects yX12_reads.cls yX12_reads yX12_reads ∈ G_ := G_s (i := 82) rfl rfl
theorem cl_X12_given : Cl_ yX12_given cX12_given 7 (some .int) 5 := ⟨G_8 (i := 77) rfl rfl, G_1 (i := 17) rfl rfl, ⟨by decide +kernel, by decide +kernel, by decide +kernel⟩, by decide⟩
theorem im_X12_given : Cond.instanceMethod yX12_given ∈ G_ := G_8 (i := 76) rfl rfl
theorem se_X12_given : Cond.selects yX12_given.cls yX12_given yX12_given ∈ G_ := G_s (i := 85) rfl rfl
theorem cl_X12_gets : Cl_ yX12_gets cX12_gets 7 (none) 4 := ⟨G_8 (i := 73) rfl rfl, G_1 (i := 17) rfl rfl, ⟨by decide +kernel, by decide +kernel, by decide +kernel⟩, by decide⟩
theorem im_X12_gets : Cond.instanceMethod yX12_gets ∈ G_ := G_8 (i := 72) rfl rfl
theorem se_X12_gets : Cond.selects yX12_gets.cls yX12_gets yX12_gets ∈ G_ := G_s (i := 84) rfl rfl
theorem cl_X12_wrong : Cl_ yX12_wrong cX12_wrong 7 (some .int) 4 := ⟨G_8 (i := 45) rfl rfl, G_1 (i := 17) rfl rfl, ⟨by decide +kernel, by decide +kernel, by decide +kernel⟩, by decide⟩
theorem im_X12_wrong : Cond.instanceMethod yX12_wrong ∈ G_ := G_8 (i := 44) rfl rfl
theorem se_X12_wrong : Cond.selects yX12_wrong.cls yX12_wrong yX12_wrong ∈ G_ := G_s (i := 78) rfl rfl
theorem cl_X12_does : Cl_ yX12_does cX12_does 7 (none) 4 := ⟨G_8 (i := 60) rfl rfl, G_1 (i := 17) rfl rfl, ⟨by decide +kernel, by decide +kernel, by decide +kernel⟩, by decide⟩
theorem im_X12_does : Cond.instanceMethod yX12_does ∈ G_ := G_8 (i := 59) rfl rfl
theorem se_X12_does : Cond.selects yX12_does.cls yX12_does yX12_does ∈ G_ := G_s (i := 81) rfl rfl
theorem cl_X12_night : Cl_ yX12_night cX12_night 3 (none) 0 := ⟨G_8 (i := 37) rfl rfl, G_1 (i := 17) rfl rfl, ⟨by decide +kernel, by decide +kernel, by decide +kernel⟩, by decide⟩
theorem im_X12_night : Cond.instanceMethod yX12_night ∈ G_ := G_8 (i := 36) rfl rfl
theorem se_X12_night : Cond.selects yX12_night.cls yX12_night yX12_night ∈ G_ := G_s (i := 76) rfl rfl
theorem cl_X12_inAll : Cl_ yX12_inAll cX12_inAll 4 (some .int) 1 := ⟨G_8 (i := 94) rfl rfl, G_1 (i := 17) rfl rfl, ⟨by decide +kernel, by decide +kernel, by decide +kernel⟩, by decide⟩
theorem im_X12_inAll : Cond.instanceMethod yX12_inAll ∈ G_ := G_8 (i := 93) rfl rfl
theorem se_X12_inAll : Cond.selects yX12_inAll.cls yX12_inAll yX12_inAll ∈ G_ := G_s (i := 86) rfl rfl
theorem cl_X12_sum : Cl_ yX12_sum cX12_sum 4 (some .int) 1 := ⟨G_8 (i := 102) rfl rfl, G_1 (i := 17) rfl rfl, ⟨by decide +kernel, by decide +kernel, by decide +kernel⟩, by decide⟩
theorem im_X12_sum : Cond.instanceMethod yX12_sum ∈ G_ := G_8 (i := 101) rfl rfl
theorem se_X12_sum : Cond.selects yX12_sum.cls yX12_sum yX12_sum ∈ G_ := G_s (i := 87) rfl rfl
theorem cl_X12_run : Cl_ yX12_run cX12_run 1 (some .int) 0 := ⟨G_8 (i := 33) rfl rfl, G_1 (i := 17) rfl rfl, ⟨by decide +kernel, by decide +kernel, by decide +kernel⟩, by decide⟩
theorem im_X12_run : Cond.instanceMethod yX12_run ∈ G_ := G_8 (i := 31) rfl rfl
theorem se_X12_run : Cond.selects yX12_run.cls yX12_run yX12_run ∈ G_ := G_8 (i := 32) rfl rfl
theorem cl_X12_why : Cl_ yX12_why cX12_why 1 (some .int) 0 := ⟨G_8 (i := 82) rfl rfl, G_1 (i := 17) rfl rfl, ⟨by decide +kernel, by decide +kernel, by decide +kernel⟩, by decide⟩
theorem im_X12_why : Cond.instanceMethod yX12_why ∈ G_ := G_8 (i := 80) rfl rfl
theorem se_X12_why : Cond.selects yX12_why.cls yX12_why yX12_why ∈ G_ := G_8 (i := 81) rfl rfl
theorem cl_X12_known : Cl_ yX12_known cX12_known 3 (some .int) 2 := ⟨G_8 (i := 86) rfl rfl, G_1 (i := 17) rfl rfl, ⟨by decide +kernel, by decide +kernel, by decide +kernel⟩, by decide⟩
theorem im_X12_known : Cond.instanceMethod yX12_known ∈ G_ := G_8 (i := 84) rfl rfl
theorem se_X12_known : Cond.selects yX12_known.cls yX12_known yX12_known ∈ G_ := G_8 (i := 85) rfl rfl
theorem cl_X12_after : Cl_ yX12_after cX12_after 3 (some .int) 2 := ⟨G_8 (i := 90) rfl rfl, G_1 (i := 17) rfl rfl, ⟨by decide +kernel, by decide +kernel, by decide +kernel⟩, by decide⟩
theorem im_X12_after : Cond.instanceMethod yX12_after ∈ G_ := G_8 (i := 88) rfl rfl
theorem se_X12_after : Cond.selects yX12_after.cls yX12_after yX12_after ∈ G_ := G_8 (i := 89) rfl rfl
theorem cl_X12_lacking : Cl_ yX12_lacking cX12_lacking 5 (some .int) 0 := ⟨G_8 (i := 106) rfl rfl, G_1 (i := 17) rfl rfl, ⟨by decide +kernel, by decide +kernel, by decide +kernel⟩, by decide⟩
theorem im_X12_lacking : Cond.instanceMethod yX12_lacking ∈ G_ := G_8 (i := 105) rfl rfl
theorem se_X12_lacking : Cond.selects yX12_lacking.cls yX12_lacking yX12_lacking ∈ G_ := G_s (i := 88) rfl rfl
theorem cl_X12_all : Cl_ yX12_all cX12_all 5 (some .int) 1 := ⟨G_8 (i := 98) rfl rfl, G_1 (i := 17) rfl rfl, ⟨by decide +kernel, by decide +kernel, by decide +kernel⟩, by decide⟩
theorem im_X12_all : Cond.instanceMethod yX12_all ∈ G_ := G_8 (i := 96) rfl rfl
theorem se_X12_all : Cond.selects yX12_all.cls yX12_all yX12_all ∈ G_ := G_8 (i := 97) rfl rfl
theorem cl_X12_tries : Cl_ yX12_tries cX12_tries 5 (some .boolean) 4 := ⟨G_8 (i := 122) rfl rfl, G_1 (i := 17) rfl rfl, ⟨by decide +kernel, by decide +kernel, by decide +kernel⟩, by decide⟩
theorem im_X12_tries : Cond.instanceMethod yX12_tries ∈ G_ := G_8 (i := 121) rfl rfl
theorem se_X12_tries : Cond.selects yX12_tries.cls yX12_tries yX12_tries ∈ G_ := G_s (i := 91) rfl rfl
theorem cl_X12_makeRows : Cl_ yX12_makeRows cX12_makeRows 3 (none) 0 := ⟨G_8 (i := 126) rfl rfl, G_1 (i := 17) rfl rfl, ⟨by decide +kernel, by decide +kernel, by decide +kernel⟩, by decide⟩
theorem im_X12_makeRows : Cond.instanceMethod yX12_makeRows ∈ G_ := G_8 (i := 125) rfl rfl
theorem se_X12_makeRows : Cond.selects yX12_makeRows.cls yX12_makeRows yX12_makeRows ∈ G_ := G_s (i := 92) rfl rfl
theorem cl_X12_idlest : Cl_ yX12_idlest cX12_idlest 4 (some .int) 1 := ⟨G_8 (i := 118) rfl rfl, G_1 (i := 17) rfl rfl, ⟨by decide +kernel, by decide +kernel, by decide +kernel⟩, by decide⟩
theorem im_X12_idlest : Cond.instanceMethod yX12_idlest ∈ G_ := G_8 (i := 117) rfl rfl
theorem se_X12_idlest : Cond.selects yX12_idlest.cls yX12_idlest yX12_idlest ∈ G_ := G_s (i := 90) rfl rfl
theorem cl_X12_makeLean : Cl_ yX12_makeLean cX12_makeLean 7 (none) 1 := ⟨G_8 (i := 114) rfl rfl, G_1 (i := 17) rfl rfl, ⟨by decide +kernel, by decide +kernel, by decide +kernel⟩, by decide⟩
theorem im_X12_makeLean : Cond.instanceMethod yX12_makeLean ∈ G_ := G_8 (i := 113) rfl rfl
theorem se_X12_makeLean : Cond.selects yX12_makeLean.cls yX12_makeLean yX12_makeLean ∈ G_ := G_s (i := 89) rfl rfl
theorem cl_X12_makeTwice : Cl_ yX12_makeTwice cX12_makeTwice 6 (none) 1 := ⟨G_8 (i := 130) rfl rfl, G_1 (i := 17) rfl rfl, ⟨by decide +kernel, by decide +kernel, by decide +kernel⟩, by decide⟩
theorem im_X12_makeTwice : Cond.instanceMethod yX12_makeTwice ∈ G_ := G_8 (i := 129) rfl rfl
theorem se_X12_makeTwice : Cond.selects yX12_makeTwice.cls yX12_makeTwice yX12_makeTwice ∈ G_ := G_s (i := 93) rfl rfl
theorem cl_X12_makeChain : Cl_ yX12_makeChain cX12_makeChain 6 (none) 1 := ⟨G_8 (i := 134) rfl rfl, G_1 (i := 17) rfl rfl, ⟨by decide +kernel, by decide +kernel, by decide +kernel⟩, by decide⟩
theorem im_X12_makeChain : Cond.instanceMethod yX12_makeChain ∈ G_ := G_8 (i := 133) rfl rfl
theorem se_X12_makeChain : Cond.selects yX12_makeChain.cls yX12_makeChain yX12_makeChain ∈ G_ := G_s (i := 94) rfl rfl
theorem cl_X12_makeRound : Cl_ yX12_makeRound cX12_makeRound 6 (none) 1 := ⟨G_8 (i := 138) rfl rfl, G_1 (i := 17) rfl rfl, ⟨by decide +kernel, by decide +kernel, by decide +kernel⟩, by decide⟩
theorem im_X12_makeRound : Cond.instanceMethod yX12_makeRound ∈ G_ := G_8 (i := 137) rfl rfl
theorem se_X12_makeRound : Cond.selects yX12_makeRound.cls yX12_makeRound yX12_makeRound ∈ G_ := G_s (i := 95) rfl rfl
theorem cl_X12_make : Cl_ yX12_make cX12_make 3 (some .int) 2 := ⟨G_8 (i := 110) rfl rfl, G_1 (i := 17) rfl rfl, ⟨by decide +kernel, by decide +kernel, by decide +kernel⟩, by decide⟩
theorem im_X12_make : Cond.instanceMethod yX12_make ∈ G_ := G_8 (i := 108) rfl rfl
theorem se_X12_make : Cond.selects yX12_make.cls yX12_make yX12_make ∈ G_ := G_8 (i := 109) rfl rfl
theorem cl_X12_draw : Cl_ yX12_draw cX12_draw 2 (some .int) 1 := ⟨G_8 (i := 146) rfl rfl, G_1 (i := 17) rfl rfl, ⟨by decide +kernel, by decide +kernel, by decide +kernel⟩, by decide⟩
theorem im_X12_draw : Cond.instanceMethod yX12_draw ∈ G_ := G_8 (i := 145) rfl rfl
theorem se_X12_draw : Cond.selects yX12_draw.cls yX12_draw yX12_draw ∈ G_ := G_s (i := 96) rfl rfl
theorem cl_X12_drawn : Cl_ yX12_drawn cX12_drawn 6 (some .int) 2 := ⟨G_8 (i := 142) rfl rfl, G_1 (i := 17) rfl rfl, ⟨by decide +kernel, by decide +kernel, by decide +kernel⟩, by decide⟩
theorem im_X12_drawn : Cond.instanceMethod yX12_drawn ∈ G_ := G_8 (i := 140) rfl rfl
theorem se_X12_drawn : Cond.selects yX12_drawn.cls yX12_drawn yX12_drawn ∈ G_ := G_8 (i := 141) rfl rfl
theorem cl_X12_tryReaders : Cl_ yX12_tryReaders cX12_tryReaders 5 (none) 1 := ⟨G_8 (i := 155) rfl rfl, G_1 (i := 17) rfl rfl, ⟨by decide +kernel, by decide +kernel, by decide +kernel⟩, by decide⟩
theorem im_X12_tryReaders : Cond.instanceMethod yX12_tryReaders ∈ G_ := G_8 (i := 154) rfl rfl
theorem se_X12_tryReaders : Cond.selects yX12_tryReaders.cls yX12_tryReaders yX12_tryReaders ∈ G_ := G_s (i := 97) rfl rfl
theorem cl_X12_best : Cl_ yX12_best cX12_best 4 (some .int) 2 := ⟨G_8 (i := 151) rfl rfl, G_1 (i := 17) rfl rfl, ⟨by decide +kernel, by decide +kernel, by decide +kernel⟩, by decide⟩
theorem im_X12_best : Cond.instanceMethod yX12_best ∈ G_ := G_8 (i := 149) rfl rfl
theorem se_X12_best : Cond.selects yX12_best.cls yX12_best yX12_best ∈ G_ := G_8 (i := 150) rfl rfl
theorem cl_X12_bestOf : Cl_ yX12_bestOf cX12_bestOf 2 (some .int) 1 := ⟨G_8 (i := 159) rfl rfl, G_1 (i := 17) rfl rfl, ⟨by decide +kernel, by decide +kernel, by decide +kernel⟩, by decide⟩
theorem im_X12_bestOf : Cond.instanceMethod yX12_bestOf ∈ G_ := G_8 (i := 157) rfl rfl
theorem se_X12_bestOf : Cond.selects yX12_bestOf.cls yX12_bestOf yX12_bestOf ∈ G_ := G_8 (i := 158) rfl rfl
theorem cl_X12_over : Cl_ yX12_over cX12_over 5 (some .int) 1 := ⟨G_8 (i := 171) rfl rfl, G_1 (i := 17) rfl rfl, ⟨by decide +kernel, by decide +kernel, by decide +kernel⟩, by decide⟩
theorem im_X12_over : Cond.instanceMethod yX12_over ∈ G_ := G_8 (i := 170) rfl rfl
theorem se_X12_over : Cond.selects yX12_over.cls yX12_over yX12_over ∈ G_ := G_s (i := 99) rfl rfl
theorem cl_X12_stretch : Cl_ yX12_stretch cX12_stretch 4 (some .int) 2 := ⟨G_8 (i := 175) rfl rfl, G_1 (i := 17) rfl rfl, ⟨by decide +kernel, by decide +kernel, by decide +kernel⟩, by decide⟩
theorem im_X12_stretch : Cond.instanceMethod yX12_stretch ∈ G_ := G_8 (i := 174) rfl rfl
theorem se_X12_stretch : Cond.selects yX12_stretch.cls yX12_stretch yX12_stretch ∈ G_ := G_s (i := 100) rfl rfl
theorem cl_X12_tryEnds : Cl_ yX12_tryEnds cX12_tryEnds 8 (none) 3 := ⟨G_8 (i := 167) rfl rfl, G_1 (i := 17) rfl rfl, ⟨by decide +kernel, by decide +kernel, by decide +kernel⟩, by decide⟩
theorem im_X12_tryEnds : Cond.instanceMethod yX12_tryEnds ∈ G_ := G_8 (i := 166) rfl rfl
theorem se_X12_tryEnds : Cond.selects yX12_tryEnds.cls yX12_tryEnds yX12_tryEnds ∈ G_ := G_s (i := 98) rfl rfl
theorem cl_X12_cut : Cl_ yX12_cut cX12_cut 4 (some .int) 2 := ⟨G_8 (i := 163) rfl rfl, G_1 (i := 17) rfl rfl, ⟨by decide +kernel, by decide +kernel, by decide +kernel⟩, by decide⟩
theorem im_X12_cut : Cond.instanceMethod yX12_cut ∈ G_ := G_8 (i := 161) rfl rfl
theorem se_X12_cut : Cond.selects yX12_cut.cls yX12_cut yX12_cut ∈ G_ := G_8 (i := 162) rfl rfl
theorem cl_X12_cutAt : Cl_ yX12_cutAt cX12_cutAt 2 (some .int) 1 := ⟨G_8 (i := 179) rfl rfl, G_1 (i := 17) rfl rfl, ⟨by decide +kernel, by decide +kernel, by decide +kernel⟩, by decide⟩
theorem im_X12_cutAt : Cond.instanceMethod yX12_cutAt ∈ G_ := G_8 (i := 177) rfl rfl
theorem se_X12_cutAt : Cond.selects yX12_cutAt.cls yX12_cutAt yX12_cutAt ∈ G_ := G_8 (i := 178) rfl rfl
theorem cl_X12_net : Cl_ yX12_net cX12_net 12 (some .int) 1 := ⟨G_8 (i := 183) rfl rfl, G_1 (i := 17) rfl rfl, ⟨by decide +kernel, by decide +kernel, by decide +kernel⟩, by decide⟩
theorem im_X12_net : Cond.instanceMethod yX12_net ∈ G_ := G_8 (i := 181) rfl rfl
theorem se_X12_net : Cond.selects yX12_net.cls yX12_net yX12_net ∈ G_ := G_8 (i := 182) rfl rfl
theorem cl_X12_netSide : Cl_ yX12_netSide cX12_netSide 1 (some .int) 0 := ⟨G_8 (i := 187) rfl rfl, G_1 (i := 17) rfl rfl, ⟨by decide +kernel, by decide +kernel, by decide +kernel⟩, by decide⟩
theorem im_X12_netSide : Cond.instanceMethod yX12_netSide ∈ G_ := G_8 (i := 185) rfl rfl
theorem se_X12_netSide : Cond.selects yX12_netSide.cls yX12_netSide yX12_netSide ∈ G_ := G_8 (i := 186) rfl rfl
theorem cl_X12_tryChain : Cl_ yX12_tryChain cX12_tryChain 7 (none) 4 := ⟨G_8 (i := 195) rfl rfl, G_1 (i := 17) rfl rfl, ⟨by decide +kernel, by decide +kernel, by decide +kernel⟩, by decide⟩
theorem im_X12_tryChain : Cond.instanceMethod yX12_tryChain ∈ G_ := G_8 (i := 194) rfl rfl
theorem se_X12_tryChain : Cond.selects yX12_tryChain.cls yX12_tryChain yX12_tryChain ∈ G_ := G_s (i := 101) rfl rfl
theorem cl_X12_chain : Cl_ yX12_chain cX12_chain 3 (some .int) 0 := ⟨G_8 (i := 191) rfl rfl, G_1 (i := 17) rfl rfl, ⟨by decide +kernel, by decide +kernel, by decide +kernel⟩, by decide⟩
theorem im_X12_chain : Cond.instanceMethod yX12_chain ∈ G_ := G_8 (i := 189) rfl rfl
theorem se_X12_chain : Cond.selects yX12_chain.cls yX12_chain yX12_chain ∈ G_ := G_8 (i := 190) rfl rfl
theorem cl_X12_chainAt : Cl_ yX12_chainAt cX12_chainAt 2 (some .int) 1 := ⟨G_8 (i := 199) rfl rfl, G_1 (i := 17) rfl rfl, ⟨by decide +kernel, by decide +kernel, by decide +kernel⟩, by decide⟩
theorem im_X12_chainAt : Cond.instanceMethod yX12_chainAt ∈ G_ := G_8 (i := 197) rfl rfl
theorem se_X12_chainAt : Cond.selects yX12_chainAt.cls yX12_chainAt yX12_chainAt ∈ G_ := G_8 (i := 198) rfl rfl
theorem cl_X12_alone : Cl_ yX12_alone cX12_alone 9 (some .int) 2 := ⟨G_8 (i := 203) rfl rfl, G_1 (i := 17) rfl rfl, ⟨by decide +kernel, by decide +kernel, by decide +kernel⟩, by decide⟩
theorem im_X12_alone : Cond.instanceMethod yX12_alone ∈ G_ := G_8 (i := 201) rfl rfl
theorem se_X12_alone : Cond.selects yX12_alone.cls yX12_alone yX12_alone ∈ G_ := G_8 (i := 202) rfl rfl
theorem cl_X12_quickest : Cl_ yX12_quickest cX12_quickest 4 (some .int) 1 := ⟨G_8 (i := 211) rfl rfl, G_1 (i := 17) rfl rfl, ⟨by decide +kernel, by decide +kernel, by decide +kernel⟩, by decide⟩
theorem im_X12_quickest : Cond.instanceMethod yX12_quickest ∈ G_ := G_8 (i := 210) rfl rfl
theorem se_X12_quickest : Cond.selects yX12_quickest.cls yX12_quickest yX12_quickest ∈ G_ := G_s (i := 102) rfl rfl
theorem cl_X12_isShut : Cl_ yX12_isShut cX12_isShut 4 (some .boolean) 1 := ⟨G_8 (i := 215) rfl rfl, G_1 (i := 17) rfl rfl, ⟨by decide +kernel, by decide +kernel, by decide +kernel⟩, by decide⟩
theorem im_X12_isShut : Cond.instanceMethod yX12_isShut ∈ G_ := G_8 (i := 214) rfl rfl
theorem se_X12_isShut : Cond.selects yX12_isShut.cls yX12_isShut yX12_isShut ∈ G_ := G_s (i := 103) rfl rfl
theorem cl_X12_leave : Cl_ yX12_leave cX12_leave 9 (some .int) 1 := ⟨G_8 (i := 207) rfl rfl, G_1 (i := 17) rfl rfl, ⟨by decide +kernel, by decide +kernel, by decide +kernel⟩, by decide⟩
theorem im_X12_leave : Cond.instanceMethod yX12_leave ∈ G_ := G_8 (i := 205) rfl rfl
theorem se_X12_leave : Cond.selects yX12_leave.cls yX12_leave yX12_leave ∈ G_ := G_8 (i := 206) rfl rfl
theorem cl_X12_extra : Cl_ yX12_extra cX12_extra 10 (some .int) 1 := ⟨G_8 (i := 219) rfl rfl, G_1 (i := 17) rfl rfl, ⟨by decide +kernel, by decide +kernel, by decide +kernel⟩, by decide⟩
theorem im_X12_extra : Cond.instanceMethod yX12_extra ∈ G_ := G_8 (i := 217) rfl rfl
theorem se_X12_extra : Cond.selects yX12_extra.cls yX12_extra yX12_extra ∈ G_ := G_8 (i := 218) rfl rfl
theorem cl_X12_ask : Cl_ yX12_ask cX12_ask 7 (some .int) 0 := ⟨G_8 (i := 223) rfl rfl, G_1 (i := 17) rfl rfl, ⟨by decide +kernel, by decide +kernel, by decide +kernel⟩, by decide⟩
theorem im_X12_ask : Cond.instanceMethod yX12_ask ∈ G_ := G_8 (i := 221) rfl rfl
theorem se_X12_ask : Cond.selects yX12_ask.cls yX12_ask yX12_ask ∈ G_ := G_8 (i := 222) rfl rfl
theorem cl_X12_asked : Cl_ yX12_asked cX12_asked 1 (some .int) 0 := ⟨G_8 (i := 230) rfl rfl, G_1 (i := 17) rfl rfl, ⟨by decide +kernel, by decide +kernel, by decide +kernel⟩, by decide⟩
theorem im_X12_asked : Cond.instanceMethod yX12_asked ∈ G_ := G_8 (i := 228) rfl rfl
theorem se_X12_asked : Cond.selects yX12_asked.cls yX12_asked yX12_asked ∈ G_ := G_8 (i := 229) rfl rfl
theorem cl_X12_seen : Cl_ yX12_seen cX12_seen 8 (some .int) 2 := ⟨G_8 (i := 234) rfl rfl, G_1 (i := 17) rfl rfl, ⟨by decide +kernel, by decide +kernel, by decide +kernel⟩, by decide⟩
theorem im_X12_seen : Cond.instanceMethod yX12_seen ∈ G_ := G_8 (i := 232) rfl rfl
theorem se_X12_seen : Cond.selects yX12_seen.cls yX12_seen yX12_seen ∈ G_ := G_8 (i := 233) rfl rfl
theorem cl_X12_illNight : Cl_ yX12_illNight cX12_illNight 8 (none) 2 := ⟨G_9 (i := 4) rfl rfl, G_1 (i := 17) rfl rfl, ⟨by decide +kernel, by decide +kernel, by decide +kernel⟩, by decide⟩
theorem im_X12_illNight : Cond.instanceMethod yX12_illNight ∈ G_ := G_9 (i := 3) rfl rfl
theorem se_X12_illNight : Cond.selects yX12_illNight.cls yX12_illNight yX12_illNight ∈ G_ := G_s (i := 104) rfl rfl
theorem cl_X12_helps : Cl_ yX12_helps cX12_helps 6 (none) 3 := ⟨G_9 (i := 8) rfl rfl, G_1 (i := 17) rfl rfl, ⟨by decide +kernel, by decide +kernel, by decide +kernel⟩, by decide⟩
theorem im_X12_helps : Cond.instanceMethod yX12_helps ∈ G_ := G_9 (i := 7) rfl rfl
theorem se_X12_helps : Cond.selects yX12_helps.cls yX12_helps yX12_helps ∈ G_ := G_s (i := 105) rfl rfl
theorem cl_X12_ill : Cl_ yX12_ill cX12_ill 8 (some .int) 3 := ⟨G_9 (i := 0) rfl rfl, G_1 (i := 17) rfl rfl, ⟨by decide +kernel, by decide +kernel, by decide +kernel⟩, by decide⟩
theorem im_X12_ill : Cond.instanceMethod yX12_ill ∈ G_ := G_8 (i := 238) rfl rfl
theorem se_X12_ill : Cond.selects yX12_ill.cls yX12_ill yX12_ill ∈ G_ := G_8 (i := 239) rfl rfl
theorem cl_X12_lays : Cl_ yX12_lays cX12_lays 6 (some .int) 4 := ⟨G_9 (i := 36) rfl rfl, G_1 (i := 17) rfl rfl, ⟨by decide +kernel, by decide +kernel, by decide +kernel⟩, by decide⟩
theorem im_X12_lays : Cond.instanceMethod yX12_lays ∈ G_ := G_9 (i := 35) rfl rfl
theorem se_X12_lays : Cond.selects yX12_lays.cls yX12_lays yX12_lays ∈ G_ := G_s (i := 111) rfl rfl
theorem cl_X12_readOr : Cl_ yX12_readOr cX12_readOr 2 (some .boolean) 0 := ⟨G_9 (i := 16) rfl rfl, G_1 (i := 17) rfl rfl, ⟨by decide +kernel, by decide +kernel, by decide +kernel⟩, by decide⟩
theorem im_X12_readOr : Cond.instanceMethod yX12_readOr ∈ G_ := G_9 (i := 15) rfl rfl
theorem se_X12_readOr : Cond.selects yX12_readOr.cls yX12_readOr yX12_readOr ∈ G_ := G_s (i := 106) rfl rfl
theorem cl_X12_readAnd : Cl_ yX12_readAnd cX12_readAnd 2 (some .boolean) 0 := ⟨G_9 (i := 20) rfl rfl, G_1 (i := 17) rfl rfl, ⟨by decide +kernel, by decide +kernel, by decide +kernel⟩, by decide⟩
theorem im_X12_readAnd : Cond.instanceMethod yX12_readAnd ∈ G_ := G_9 (i := 19) rfl rfl
theorem se_X12_readAnd : Cond.selects yX12_readAnd.cls yX12_readAnd yX12_readAnd ∈ G_ := G_s (i := 107) rfl rfl
theorem cl_X12_readOne : Cl_ yX12_readOne cX12_readOne 4 (some .boolean) 0 := ⟨G_9 (i := 24) rfl rfl, G_1 (i := 17) rfl rfl, ⟨by decide +kernel, by decide +kernel, by decide +kernel⟩, by decide⟩
theorem im_X12_readOne : Cond.instanceMethod yX12_readOne ∈ G_ := G_9 (i := 23) rfl rfl
theorem se_X12_readOne : Cond.selects yX12_readOne.cls yX12_readOne yX12_readOne ∈ G_ := G_s (i := 108) rfl rfl
theorem cl_X12_readNot : Cl_ yX12_readNot cX12_readNot 1 (some .boolean) 0 := ⟨G_9 (i := 32) rfl rfl, G_1 (i := 17) rfl rfl, ⟨by decide +kernel, by decide +kernel, by decide +kernel⟩, by decide⟩
theorem im_X12_readNot : Cond.instanceMethod yX12_readNot ∈ G_ := G_9 (i := 31) rfl rfl
theorem se_X12_readNot : Cond.selects yX12_readNot.cls yX12_readNot yX12_readNot ∈ G_ := G_s (i := 110) rfl rfl
theorem cl_X12_readBracket : Cl_ yX12_readBracket cX12_readBracket 1 (some .boolean) 0 := ⟨G_9 (i := 28) rfl rfl, G_1 (i := 17) rfl rfl, ⟨by decide +kernel, by decide +kernel, by decide +kernel⟩, by decide⟩
theorem im_X12_readBracket : Cond.instanceMethod yX12_readBracket ∈ G_ := G_9 (i := 27) rfl rfl
theorem se_X12_readBracket : Cond.selects yX12_readBracket.cls yX12_readBracket yX12_readBracket ∈ G_ := G_s (i := 109) rfl rfl
theorem cl_X12_readOf : Cl_ yX12_readOf cX12_readOf 2 (some .boolean) 1 := ⟨G_9 (i := 40) rfl rfl, G_1 (i := 17) rfl rfl, ⟨by decide +kernel, by decide +kernel, by decide +kernel⟩, by decide⟩
theorem im_X12_readOf : Cond.instanceMethod yX12_readOf ∈ G_ := G_9 (i := 39) rfl rfl
theorem se_X12_readOf : Cond.selects yX12_readOf.cls yX12_readOf yX12_readOf ∈ G_ := G_s (i := 112) rfl rfl
theorem cl_X12_readCompare : Cl_ yX12_readCompare cX12_readCompare 4 (some .boolean) 1 := ⟨G_9 (i := 44) rfl rfl, G_1 (i := 17) rfl rfl, ⟨by decide +kernel, by decide +kernel, by decide +kernel⟩, by decide⟩
theorem im_X12_readCompare : Cond.instanceMethod yX12_readCompare ∈ G_ := G_9 (i := 43) rfl rfl
theorem se_X12_readCompare : Cond.selects yX12_readCompare.cls yX12_readCompare yX12_readCompare ∈ G_ := G_s (i := 113) rfl rfl
theorem cl_X12_sentence : Cl_ yX12_sentence cX12_sentence 2 (some .int) 0 := ⟨G_9 (i := 12) rfl rfl, G_1 (i := 17) rfl rfl, ⟨by decide +kernel, by decide +kernel, by decide +kernel⟩, by decide⟩
theorem im_X12_sentence : Cond.instanceMethod yX12_sentence ∈ G_ := G_9 (i := 10) rfl rfl
theorem se_X12_sentence : Cond.selects yX12_sentence.cls yX12_sentence yX12_sentence ∈ G_ := G_9 (i := 11) rfl rfl
theorem cl_X12_compares : Cl_ yX12_compares cX12_compares 3 (some .boolean) 3 := ⟨G_9 (i := 55) rfl rfl, G_1 (i := 17) rfl rfl, ⟨by decide +kernel, by decide +kernel, by decide +kernel⟩, by decide⟩
theorem sm_X12_compares : Cond.static yX12_compares ∈ G_ := G_9 (i := 54) rfl rfl
theorem cl_X12_isSo : Cl_ yX12_isSo cX12_isSo 6 (some .boolean) 2 := ⟨G_9 (i := 52) rfl rfl, G_1 (i := 17) rfl rfl, ⟨by decide +kernel, by decide +kernel, by decide +kernel⟩, by decide⟩
theorem im_X12_isSo : Cond.instanceMethod yX12_isSo ∈ G_ := G_9 (i := 51) rfl rfl
theorem se_X12_isSo : Cond.selects yX12_isSo.cls yX12_isSo yX12_isSo ∈ G_ := G_s (i := 114) rfl rfl
theorem cl_X12_said : Cl_ yX12_said cX12_said 3 (some .int) 0 := ⟨G_9 (i := 48) rfl rfl, G_1 (i := 17) rfl rfl, ⟨by decide +kernel, by decide +kernel, by decide +kernel⟩, by decide⟩
theorem im_X12_said : Cond.instanceMethod yX12_said ∈ G_ := G_9 (i := 46) rfl rfl
theorem se_X12_said : Cond.selects yX12_said.cls yX12_said yX12_said ∈ G_ := G_9 (i := 47) rfl rfl
theorem cl_X12_image : Cl_ yX12_image cX12_image 3 (some .boolean) 1 := ⟨G_9 (i := 59) rfl rfl, G_1 (i := 17) rfl rfl, ⟨by decide +kernel, by decide +kernel, by decide +kernel⟩, by decide⟩
theorem im_X12_image : Cond.instanceMethod yX12_image ∈ G_ := G_9 (i := 57) rfl rfl
theorem se_X12_image : Cond.selects yX12_image.cls yX12_image yX12_image ∈ G_ := G_9 (i := 58) rfl rfl
theorem cl_X12_restore : Cl_ yX12_restore cX12_restore 3 (some .boolean) 1 := ⟨G_9 (i := 63) rfl rfl, G_1 (i := 17) rfl rfl, ⟨by decide +kernel, by decide +kernel, by decide +kernel⟩, by decide⟩
theorem im_X12_restore : Cond.instanceMethod yX12_restore ∈ G_ := G_9 (i := 61) rfl rfl
theorem se_X12_restore : Cond.selects yX12_restore.cls yX12_restore yX12_restore ∈ G_ := G_9 (i := 62) rfl rfl
theorem cl_X12_count : Cl_ yX12_count cX12_count 2 (some .int) 1 := ⟨G_9 (i := 67) rfl rfl, G_1 (i := 17) rfl rfl, ⟨by decide +kernel, by decide +kernel, by decide +kernel⟩, by decide⟩
theorem im_X12_count : Cond.instanceMethod yX12_count ∈ G_ := G_9 (i := 65) rfl rfl
theorem se_X12_count : Cond.selects yX12_count.cls yX12_count yX12_count ∈ G_ := G_9 (i := 66) rfl rfl
theorem cl_J6_bitCount_0f7a4 : Cl_ yJ6_bitCount_0f7a4 cJ6_bitCount_0f7a4 1 (some .int) 1 := ⟨G_5 (i := 164) rfl rfl, G_1 (i := 24) rfl rfl, ⟨by decide +kernel, by decide +kernel, by decide +kernel⟩, by decide⟩
theorem sm_J6_bitCount_0f7a4 : Cond.static yJ6_bitCount_0f7a4 ∈ G_ := G_5 (i := 163) rfl rfl
theorem mm_max_s : Cond.static Lib.Math.max.name ∈ G_ := G_4 (i := 134) rfl rfl
theorem mm_max_c : Cond.code Lib.Math.max.name Lib.Math.max.code 2 (some .int) ∈ G_ := G_4 (i := 135) rfl rfl
theorem mm_min_s : Cond.static Lib.Math.min.name ∈ G_ := G_4 (i := 82) rfl rfl
theorem mm_min_c : Cond.code Lib.Math.min.name Lib.Math.min.code 2 (some .int) ∈ G_ := G_4 (i := 83) rfl rfl
theorem mm_i : Cond.initialized "java/lang/Math" ∈ G_ := G_1 (i := 22) rfl rfl

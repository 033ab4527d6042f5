/-! what the constructors make -/
set_option maxRecDepth 100000 in
theorem hnF_eq {P : List (Nat × On_)} {nL fuel : Nat} {as : List Value} {τ : Tn_} {lo : Lo_} {out : Option Tn_} (h : (as.all (fun v => v.category == 1) && decide (as.length ≤ nL)) = true) (hlo : lo0_ nL as = lo) (he : evN_ P fuel 0 lo [] τ = out) : hnF_ P nL fuel as τ = out := by
  subst hlo
  exact (if_pos h).trans he
def sx_X0_4 (σ : St_) : St_ := (sI_ (sI_ (sI_ (sI_ (sI_ (sI_ (sI_ (sR_ (zr_ (sR_ (zr_ (sR_ (zr_ (sR_ (zr_ (sR_ (zr_ (sR_ (zr_ (sR_ (gz_ (sR_ (zr_ (sR_ (zr_ (sR_ (zr_ (sR_ (zr_ σ 5) 4 0 (some 5)) 6) 4 1 (some 6)) 7) 4 2 (some 7)) 8) 4 3 (some 8)) 9 16) 4 4 (some 9)) 26) 4 5 (some 26)) 27) 4 6 (some 27)) 28) 4 7 (some 28)) 29) 4 8 (some 29)) 30) 4 9 (some 30)) 31) 4 10 (some 31)) 4 11 0) 4 12 0) 4 13 0) 4 14 20) 4 15 8) 4 16 0) 4 17 0)
set_option maxRecDepth 100000 in
theorem sg_X0_4_0 (m : Nat) (σ : St_) : evN_ PN_X0_init (m + 6) 0 [some (.ref 4)] [] (5, σ) = evN_ PN_X0_init m 12 [some (.ref 4)] [] (6, (sR_ (zr_ σ 5) 4 0 (some 5))) := rfl
set_option maxRecDepth 100000 in
theorem sg_X0_4_1 (m : Nat) (σ : St_) : evN_ PN_X0_init (m + 4) 12 [some (.ref 4)] [] (6, σ) = evN_ PN_X0_init m 20 [some (.ref 4)] [] (7, (sR_ (zr_ σ 6) 4 1 (some 6))) := rfl
set_option maxRecDepth 100000 in
theorem sg_X0_4_2 (m : Nat) (σ : St_) : evN_ PN_X0_init (m + 4) 20 [some (.ref 4)] [] (7, σ) = evN_ PN_X0_init m 28 [some (.ref 4)] [] (8, (sR_ (zr_ σ 7) 4 2 (some 7))) := rfl
set_option maxRecDepth 100000 in
theorem sg_X0_4_3 (m : Nat) (σ : St_) : evN_ PN_X0_init (m + 4) 28 [some (.ref 4)] [] (8, σ) = evN_ PN_X0_init m 36 [some (.ref 4)] [] (9, (sR_ (zr_ σ 8) 4 3 (some 8))) := rfl
set_option maxRecDepth 100000 in
theorem sg_X0_4_4 (m : Nat) (σ : St_) : evN_ PN_X0_init (m + 5) 36 [some (.ref 4)] [] (9, σ) = evN_ PN_X0_init m 48 [some (.ref 4)] [] (26, (sR_ (gz_ σ 9 16) 4 4 (some 9))) := rfl
set_option maxRecDepth 100000 in
theorem sg_X0_4_5 (m : Nat) (σ : St_) : evN_ PN_X0_init (m + 4) 48 [some (.ref 4)] [] (26, σ) = evN_ PN_X0_init m 56 [some (.ref 4)] [] (27, (sR_ (zr_ σ 26) 4 5 (some 26))) := rfl
set_option maxRecDepth 100000 in
theorem sg_X0_4_6 (m : Nat) (σ : St_) : evN_ PN_X0_init (m + 4) 56 [some (.ref 4)] [] (27, σ) = evN_ PN_X0_init m 64 [some (.ref 4)] [] (28, (sR_ (zr_ σ 27) 4 6 (some 27))) := rfl
set_option maxRecDepth 100000 in
theorem sg_X0_4_7 (m : Nat) (σ : St_) : evN_ PN_X0_init (m + 4) 64 [some (.ref 4)] [] (28, σ) = evN_ PN_X0_init m 72 [some (.ref 4)] [] (29, (sR_ (zr_ σ 28) 4 7 (some 28))) := rfl
set_option maxRecDepth 100000 in
theorem sg_X0_4_8 (m : Nat) (σ : St_) : evN_ PN_X0_init (m + 4) 72 [some (.ref 4)] [] (29, σ) = evN_ PN_X0_init m 80 [some (.ref 4)] [] (30, (sR_ (zr_ σ 29) 4 8 (some 29))) := rfl
set_option maxRecDepth 100000 in
theorem sg_X0_4_9 (m : Nat) (σ : St_) : evN_ PN_X0_init (m + 4) 80 [some (.ref 4)] [] (30, σ) = evN_ PN_X0_init m 88 [some (.ref 4)] [] (31, (sR_ (zr_ σ 30) 4 9 (some 30))) := rfl
set_option maxRecDepth 100000 in
theorem sg_X0_4_10 (m : Nat) (σ : St_) : evN_ PN_X0_init (m + 4) 88 [some (.ref 4)] [] (31, σ) = evN_ PN_X0_init m 96 [some (.ref 4)] [] (32, (sR_ (zr_ σ 31) 4 10 (some 31))) := rfl
set_option maxRecDepth 100000 in
theorem sg_X0_4_11 (m : Nat) (σ : St_) : evN_ PN_X0_init (m + 2) 96 [some (.ref 4)] [] (32, σ) = evN_ PN_X0_init m 100 [some (.ref 4)] [] (32, (sI_ (sI_ (sI_ (sI_ (sI_ (sI_ (sI_ σ 4 11 0) 4 12 0) 4 13 0) 4 14 20) 4 15 8) 4 16 0) 4 17 0)) := rfl
set_option maxRecDepth 100000 in
theorem sg_X0_4_z (m : Nat) (σ : St_) : evN_ PN_X0_init (m + 1) 100 [some (.ref 4)] [] (32, σ) = some (32, σ) := rfl
set_option maxRecDepth 100000 in
theorem ev_X0_4 (σ : St_) : hn_X0_init [.ref 4] (5, σ) = some (32, sx_X0_4 σ) := hnF_eq (P := PN_X0_init) (nL := 1) (fuel := 150) rfl rfl ((sg_X0_4_0 144 _).trans ((sg_X0_4_1 140 _).trans ((sg_X0_4_2 136 _).trans ((sg_X0_4_3 132 _).trans ((sg_X0_4_4 127 _).trans ((sg_X0_4_5 123 _).trans ((sg_X0_4_6 119 _).trans ((sg_X0_4_7 115 _).trans ((sg_X0_4_8 111 _).trans ((sg_X0_4_9 107 _).trans ((sg_X0_4_10 103 _).trans ((sg_X0_4_11 101 _).trans ((sg_X0_4_z 100 _))))))))))))))
def sx_X0_32 (σ : St_) : St_ := (sI_ (sI_ (sI_ (sI_ (sI_ (sI_ (sI_ (sR_ (zr_ (sR_ (zr_ (sR_ (zr_ (sR_ (zr_ (sR_ (zr_ (sR_ (zr_ (sR_ (gz_ (sR_ (zr_ (sR_ (zr_ (sR_ (zr_ (sR_ (zr_ σ 33) 32 0 (some 33)) 34) 32 1 (some 34)) 35) 32 2 (some 35)) 36) 32 3 (some 36)) 37 16) 32 4 (some 37)) 54) 32 5 (some 54)) 55) 32 6 (some 55)) 56) 32 7 (some 56)) 57) 32 8 (some 57)) 58) 32 9 (some 58)) 59) 32 10 (some 59)) 32 11 0) 32 12 0) 32 13 0) 32 14 20) 32 15 8) 32 16 0) 32 17 0)
set_option maxRecDepth 100000 in
theorem sg_X0_32_0 (m : Nat) (σ : St_) : evN_ PN_X0_init (m + 6) 0 [some (.ref 32)] [] (33, σ) = evN_ PN_X0_init m 12 [some (.ref 32)] [] (34, (sR_ (zr_ σ 33) 32 0 (some 33))) := rfl
set_option maxRecDepth 100000 in
theorem sg_X0_32_1 (m : Nat) (σ : St_) : evN_ PN_X0_init (m + 4) 12 [some (.ref 32)] [] (34, σ) = evN_ PN_X0_init m 20 [some (.ref 32)] [] (35, (sR_ (zr_ σ 34) 32 1 (some 34))) := rfl
set_option maxRecDepth 100000 in
theorem sg_X0_32_2 (m : Nat) (σ : St_) : evN_ PN_X0_init (m + 4) 20 [some (.ref 32)] [] (35, σ) = evN_ PN_X0_init m 28 [some (.ref 32)] [] (36, (sR_ (zr_ σ 35) 32 2 (some 35))) := rfl
set_option maxRecDepth 100000 in
theorem sg_X0_32_3 (m : Nat) (σ : St_) : evN_ PN_X0_init (m + 4) 28 [some (.ref 32)] [] (36, σ) = evN_ PN_X0_init m 36 [some (.ref 32)] [] (37, (sR_ (zr_ σ 36) 32 3 (some 36))) := rfl
set_option maxRecDepth 100000 in
theorem sg_X0_32_4 (m : Nat) (σ : St_) : evN_ PN_X0_init (m + 5) 36 [some (.ref 32)] [] (37, σ) = evN_ PN_X0_init m 48 [some (.ref 32)] [] (54, (sR_ (gz_ σ 37 16) 32 4 (some 37))) := rfl
set_option maxRecDepth 100000 in
theorem sg_X0_32_5 (m : Nat) (σ : St_) : evN_ PN_X0_init (m + 4) 48 [some (.ref 32)] [] (54, σ) = evN_ PN_X0_init m 56 [some (.ref 32)] [] (55, (sR_ (zr_ σ 54) 32 5 (some 54))) := rfl
set_option maxRecDepth 100000 in
theorem sg_X0_32_6 (m : Nat) (σ : St_) : evN_ PN_X0_init (m + 4) 56 [some (.ref 32)] [] (55, σ) = evN_ PN_X0_init m 64 [some (.ref 32)] [] (56, (sR_ (zr_ σ 55) 32 6 (some 55))) := rfl
set_option maxRecDepth 100000 in
theorem sg_X0_32_7 (m : Nat) (σ : St_) : evN_ PN_X0_init (m + 4) 64 [some (.ref 32)] [] (56, σ) = evN_ PN_X0_init m 72 [some (.ref 32)] [] (57, (sR_ (zr_ σ 56) 32 7 (some 56))) := rfl
set_option maxRecDepth 100000 in
theorem sg_X0_32_8 (m : Nat) (σ : St_) : evN_ PN_X0_init (m + 4) 72 [some (.ref 32)] [] (57, σ) = evN_ PN_X0_init m 80 [some (.ref 32)] [] (58, (sR_ (zr_ σ 57) 32 8 (some 57))) := rfl
set_option maxRecDepth 100000 in
theorem sg_X0_32_9 (m : Nat) (σ : St_) : evN_ PN_X0_init (m + 4) 80 [some (.ref 32)] [] (58, σ) = evN_ PN_X0_init m 88 [some (.ref 32)] [] (59, (sR_ (zr_ σ 58) 32 9 (some 58))) := rfl
set_option maxRecDepth 100000 in
theorem sg_X0_32_10 (m : Nat) (σ : St_) : evN_ PN_X0_init (m + 4) 88 [some (.ref 32)] [] (59, σ) = evN_ PN_X0_init m 96 [some (.ref 32)] [] (60, (sR_ (zr_ σ 59) 32 10 (some 59))) := rfl
set_option maxRecDepth 100000 in
theorem sg_X0_32_11 (m : Nat) (σ : St_) : evN_ PN_X0_init (m + 2) 96 [some (.ref 32)] [] (60, σ) = evN_ PN_X0_init m 100 [some (.ref 32)] [] (60, (sI_ (sI_ (sI_ (sI_ (sI_ (sI_ (sI_ σ 32 11 0) 32 12 0) 32 13 0) 32 14 20) 32 15 8) 32 16 0) 32 17 0)) := rfl
set_option maxRecDepth 100000 in
theorem sg_X0_32_z (m : Nat) (σ : St_) : evN_ PN_X0_init (m + 1) 100 [some (.ref 32)] [] (60, σ) = some (60, σ) := rfl
set_option maxRecDepth 100000 in
theorem ev_X0_32 (σ : St_) : hn_X0_init [.ref 32] (33, σ) = some (60, sx_X0_32 σ) := hnF_eq (P := PN_X0_init) (nL := 1) (fuel := 150) rfl rfl ((sg_X0_32_0 144 _).trans ((sg_X0_32_1 140 _).trans ((sg_X0_32_2 136 _).trans ((sg_X0_32_3 132 _).trans ((sg_X0_32_4 127 _).trans ((sg_X0_32_5 123 _).trans ((sg_X0_32_6 119 _).trans ((sg_X0_32_7 115 _).trans ((sg_X0_32_8 111 _).trans ((sg_X0_32_9 107 _).trans ((sg_X0_32_10 103 _).trans ((sg_X0_32_11 101 _).trans ((sg_X0_32_z 100 _))))))))))))))
def sx_X6_60 (σ : St_) : St_ := (sI_ (sR_ (zr_ (sR_ (zr_ (sR_ (zr_ (sR_ (zr_ σ 61) 60 0 (some 61)) 62) 60 1 (some 62)) 63) 60 2 (some 63)) 64) 60 3 (some 64)) 60 4 0)
set_option maxRecDepth 100000 in
theorem sg_X6_60_0 (m : Nat) (σ : St_) : evN_ PN_X6_init (m + 6) 0 [some (.ref 60)] [] (61, σ) = evN_ PN_X6_init m 12 [some (.ref 60)] [] (62, (sR_ (zr_ σ 61) 60 0 (some 61))) := rfl
set_option maxRecDepth 100000 in
theorem sg_X6_60_1 (m : Nat) (σ : St_) : evN_ PN_X6_init (m + 4) 12 [some (.ref 60)] [] (62, σ) = evN_ PN_X6_init m 20 [some (.ref 60)] [] (63, (sR_ (zr_ σ 62) 60 1 (some 62))) := rfl
set_option maxRecDepth 100000 in
theorem sg_X6_60_2 (m : Nat) (σ : St_) : evN_ PN_X6_init (m + 4) 20 [some (.ref 60)] [] (63, σ) = evN_ PN_X6_init m 28 [some (.ref 60)] [] (64, (sR_ (zr_ σ 63) 60 2 (some 63))) := rfl
set_option maxRecDepth 100000 in
theorem sg_X6_60_3 (m : Nat) (σ : St_) : evN_ PN_X6_init (m + 4) 28 [some (.ref 60)] [] (64, σ) = evN_ PN_X6_init m 36 [some (.ref 60)] [] (65, (sR_ (zr_ σ 64) 60 3 (some 64))) := rfl
set_option maxRecDepth 100000 in
theorem sg_X6_60_4 (m : Nat) (σ : St_) : evN_ PN_X6_init (m + 3) 36 [some (.ref 60)] [] (65, σ) = evN_ PN_X6_init m 41 [some (.ref 60)] [] (65, (sI_ σ 60 4 0)) := rfl
set_option maxRecDepth 100000 in
theorem sg_X6_60_z (m : Nat) (σ : St_) : evN_ PN_X6_init (m + 1) 41 [some (.ref 60)] [] (65, σ) = some (65, σ) := rfl
set_option maxRecDepth 100000 in
theorem ev_X6_60 (σ : St_) : hn_X6_init [.ref 60] (61, σ) = some (65, sx_X6_60 σ) := hnF_eq (P := PN_X6_init) (nL := 1) (fuel := 150) rfl rfl ((sg_X6_60_0 144 _).trans ((sg_X6_60_1 140 _).trans ((sg_X6_60_2 136 _).trans ((sg_X6_60_3 132 _).trans ((sg_X6_60_4 129 _).trans ((sg_X6_60_z 128 _)))))))
def sx_X6_65 (σ : St_) : St_ := (sI_ (sR_ (zr_ (sR_ (zr_ (sR_ (zr_ (sR_ (zr_ σ 66) 65 0 (some 66)) 67) 65 1 (some 67)) 68) 65 2 (some 68)) 69) 65 3 (some 69)) 65 4 0)
set_option maxRecDepth 100000 in
theorem sg_X6_65_0 (m : Nat) (σ : St_) : evN_ PN_X6_init (m + 6) 0 [some (.ref 65)] [] (66, σ) = evN_ PN_X6_init m 12 [some (.ref 65)] [] (67, (sR_ (zr_ σ 66) 65 0 (some 66))) := rfl
set_option maxRecDepth 100000 in
theorem sg_X6_65_1 (m : Nat) (σ : St_) : evN_ PN_X6_init (m + 4) 12 [some (.ref 65)] [] (67, σ) = evN_ PN_X6_init m 20 [some (.ref 65)] [] (68, (sR_ (zr_ σ 67) 65 1 (some 67))) := rfl
set_option maxRecDepth 100000 in
theorem sg_X6_65_2 (m : Nat) (σ : St_) : evN_ PN_X6_init (m + 4) 20 [some (.ref 65)] [] (68, σ) = evN_ PN_X6_init m 28 [some (.ref 65)] [] (69, (sR_ (zr_ σ 68) 65 2 (some 68))) := rfl
set_option maxRecDepth 100000 in
theorem sg_X6_65_3 (m : Nat) (σ : St_) : evN_ PN_X6_init (m + 4) 28 [some (.ref 65)] [] (69, σ) = evN_ PN_X6_init m 36 [some (.ref 65)] [] (70, (sR_ (zr_ σ 69) 65 3 (some 69))) := rfl
set_option maxRecDepth 100000 in
theorem sg_X6_65_4 (m : Nat) (σ : St_) : evN_ PN_X6_init (m + 3) 36 [some (.ref 65)] [] (70, σ) = evN_ PN_X6_init m 41 [some (.ref 65)] [] (70, (sI_ σ 65 4 0)) := rfl
set_option maxRecDepth 100000 in
theorem sg_X6_65_z (m : Nat) (σ : St_) : evN_ PN_X6_init (m + 1) 41 [some (.ref 65)] [] (70, σ) = some (70, σ) := rfl
set_option maxRecDepth 100000 in
theorem ev_X6_65 (σ : St_) : hn_X6_init [.ref 65] (66, σ) = some (70, sx_X6_65 σ) := hnF_eq (P := PN_X6_init) (nL := 1) (fuel := 150) rfl rfl ((sg_X6_65_0 144 _).trans ((sg_X6_65_1 140 _).trans ((sg_X6_65_2 136 _).trans ((sg_X6_65_3 132 _).trans ((sg_X6_65_4 129 _).trans ((sg_X6_65_z 128 _)))))))
def sx_X9_70 (σ : St_) : St_ := (sI_ (sI_ (sR_ (zr_ (sR_ (zr_ (sR_ (zr_ (sR_ (zr_ σ 71) 70 0 (some 71)) 72) 70 1 (some 72)) 73) 70 2 (some 73)) 74) 70 3 (some 74)) 70 4 0) 70 5 0)
set_option maxRecDepth 100000 in
theorem sg_X9_70_0 (m : Nat) (σ : St_) : evN_ PN_X9_init (m + 6) 0 [some (.ref 70)] [] (71, σ) = evN_ PN_X9_init m 12 [some (.ref 70)] [] (72, (sR_ (zr_ σ 71) 70 0 (some 71))) := rfl
set_option maxRecDepth 100000 in
theorem sg_X9_70_1 (m : Nat) (σ : St_) : evN_ PN_X9_init (m + 4) 12 [some (.ref 70)] [] (72, σ) = evN_ PN_X9_init m 20 [some (.ref 70)] [] (73, (sR_ (zr_ σ 72) 70 1 (some 72))) := rfl
set_option maxRecDepth 100000 in
theorem sg_X9_70_2 (m : Nat) (σ : St_) : evN_ PN_X9_init (m + 4) 20 [some (.ref 70)] [] (73, σ) = evN_ PN_X9_init m 28 [some (.ref 70)] [] (74, (sR_ (zr_ σ 73) 70 2 (some 73))) := rfl
set_option maxRecDepth 100000 in
theorem sg_X9_70_3 (m : Nat) (σ : St_) : evN_ PN_X9_init (m + 4) 28 [some (.ref 70)] [] (74, σ) = evN_ PN_X9_init m 36 [some (.ref 70)] [] (75, (sR_ (zr_ σ 74) 70 3 (some 74))) := rfl
set_option maxRecDepth 100000 in
theorem sg_X9_70_4 (m : Nat) (σ : St_) : evN_ PN_X9_init (m + 6) 36 [some (.ref 70)] [] (75, σ) = evN_ PN_X9_init m 46 [some (.ref 70)] [] (75, (sI_ (sI_ σ 70 4 0) 70 5 0)) := rfl
set_option maxRecDepth 100000 in
theorem sg_X9_70_z (m : Nat) (σ : St_) : evN_ PN_X9_init (m + 1) 46 [some (.ref 70)] [] (75, σ) = some (75, σ) := rfl
set_option maxRecDepth 100000 in
theorem ev_X9_70 (σ : St_) : hn_X9_init [.ref 70] (71, σ) = some (75, sx_X9_70 σ) := hnF_eq (P := PN_X9_init) (nL := 1) (fuel := 150) rfl rfl ((sg_X9_70_0 144 _).trans ((sg_X9_70_1 140 _).trans ((sg_X9_70_2 136 _).trans ((sg_X9_70_3 132 _).trans ((sg_X9_70_4 126 _).trans ((sg_X9_70_z 125 _)))))))
def sx_X9_75 (σ : St_) : St_ := (sI_ (sI_ (sR_ (zr_ (sR_ (zr_ (sR_ (zr_ (sR_ (zr_ σ 76) 75 0 (some 76)) 77) 75 1 (some 77)) 78) 75 2 (some 78)) 79) 75 3 (some 79)) 75 4 0) 75 5 0)
set_option maxRecDepth 100000 in
theorem sg_X9_75_0 (m : Nat) (σ : St_) : evN_ PN_X9_init (m + 6) 0 [some (.ref 75)] [] (76, σ) = evN_ PN_X9_init m 12 [some (.ref 75)] [] (77, (sR_ (zr_ σ 76) 75 0 (some 76))) := rfl
set_option maxRecDepth 100000 in
theorem sg_X9_75_1 (m : Nat) (σ : St_) : evN_ PN_X9_init (m + 4) 12 [some (.ref 75)] [] (77, σ) = evN_ PN_X9_init m 20 [some (.ref 75)] [] (78, (sR_ (zr_ σ 77) 75 1 (some 77))) := rfl
set_option maxRecDepth 100000 in
theorem sg_X9_75_2 (m : Nat) (σ : St_) : evN_ PN_X9_init (m + 4) 20 [some (.ref 75)] [] (78, σ) = evN_ PN_X9_init m 28 [some (.ref 75)] [] (79, (sR_ (zr_ σ 78) 75 2 (some 78))) := rfl
set_option maxRecDepth 100000 in
theorem sg_X9_75_3 (m : Nat) (σ : St_) : evN_ PN_X9_init (m + 4) 28 [some (.ref 75)] [] (79, σ) = evN_ PN_X9_init m 36 [some (.ref 75)] [] (80, (sR_ (zr_ σ 79) 75 3 (some 79))) := rfl
set_option maxRecDepth 100000 in
theorem sg_X9_75_4 (m : Nat) (σ : St_) : evN_ PN_X9_init (m + 6) 36 [some (.ref 75)] [] (80, σ) = evN_ PN_X9_init m 46 [some (.ref 75)] [] (80, (sI_ (sI_ σ 75 4 0) 75 5 0)) := rfl
set_option maxRecDepth 100000 in
theorem sg_X9_75_z (m : Nat) (σ : St_) : evN_ PN_X9_init (m + 1) 46 [some (.ref 75)] [] (80, σ) = some (80, σ) := rfl
set_option maxRecDepth 100000 in
theorem ev_X9_75 (σ : St_) : hn_X9_init [.ref 75] (76, σ) = some (80, sx_X9_75 σ) := hnF_eq (P := PN_X9_init) (nL := 1) (fuel := 150) rfl rfl ((sg_X9_75_0 144 _).trans ((sg_X9_75_1 140 _).trans ((sg_X9_75_2 136 _).trans ((sg_X9_75_3 132 _).trans ((sg_X9_75_4 126 _).trans ((sg_X9_75_z 125 _)))))))
def sx_X5_80 (σ : St_) : St_ := (sR_ (sI_ (sR_ (zr_ (sR_ (zr_ (sR_ (zr_ (sR_ (zr_ σ 81) 80 0 (some 81)) 82) 80 1 (some 82)) 83) 80 2 (some 83)) 84) 80 3 (some 84)) 80 4 (-1)) 80 9 (some 4))
set_option maxRecDepth 100000 in
theorem sg_X5_80_0 (m : Nat) (σ : St_) : evN_ PN_X5_init (m + 6) 0 [some (.ref 80), some (.ref 4)] [] (81, σ) = evN_ PN_X5_init m 12 [some (.ref 80), some (.ref 4)] [] (82, (sR_ (zr_ σ 81) 80 0 (some 81))) := rfl
set_option maxRecDepth 100000 in
theorem sg_X5_80_1 (m : Nat) (σ : St_) : evN_ PN_X5_init (m + 4) 12 [some (.ref 80), some (.ref 4)] [] (82, σ) = evN_ PN_X5_init m 20 [some (.ref 80), some (.ref 4)] [] (83, (sR_ (zr_ σ 82) 80 1 (some 82))) := rfl
set_option maxRecDepth 100000 in
theorem sg_X5_80_2 (m : Nat) (σ : St_) : evN_ PN_X5_init (m + 4) 20 [some (.ref 80), some (.ref 4)] [] (83, σ) = evN_ PN_X5_init m 28 [some (.ref 80), some (.ref 4)] [] (84, (sR_ (zr_ σ 83) 80 2 (some 83))) := rfl
set_option maxRecDepth 100000 in
theorem sg_X5_80_3 (m : Nat) (σ : St_) : evN_ PN_X5_init (m + 4) 28 [some (.ref 80), some (.ref 4)] [] (84, σ) = evN_ PN_X5_init m 37 [some (.ref 80), some (.ref 4)] [] (85, (sR_ (zr_ σ 84) 80 3 (some 84))) := rfl
set_option maxRecDepth 100000 in
theorem sg_X5_80_4 (m : Nat) (σ : St_) : evN_ PN_X5_init (m + 6) 37 [some (.ref 80), some (.ref 4)] [] (85, σ) = evN_ PN_X5_init m 47 [some (.ref 80), some (.ref 4)] [] (85, (sR_ (sI_ σ 80 4 (-1)) 80 9 (some 4))) := rfl
set_option maxRecDepth 100000 in
theorem sg_X5_80_z (m : Nat) (σ : St_) : evN_ PN_X5_init (m + 1) 47 [some (.ref 80), some (.ref 4)] [] (85, σ) = some (85, σ) := rfl
set_option maxRecDepth 100000 in
theorem ev_X5_80 (σ : St_) : hn_X5_init [.ref 80, .ref 4] (81, σ) = some (85, sx_X5_80 σ) := hnF_eq (P := PN_X5_init) (nL := 2) (fuel := 150) rfl rfl ((sg_X5_80_0 144 _).trans ((sg_X5_80_1 140 _).trans ((sg_X5_80_2 136 _).trans ((sg_X5_80_3 132 _).trans ((sg_X5_80_4 126 _).trans ((sg_X5_80_z 125 _)))))))
def sx_X4_85 (σ : St_) : St_ := (sR_ (sR_ (sR_ (zr_ (sR_ (sR_ (sI_ (sR_ (zr_ (sR_ (zr_ (sR_ (zr_ (sR_ (zr_ (zr_ σ 86) 87) 86 0 (some 87)) 88) 86 1 (some 88)) 89) 86 2 (some 89)) 90) 86 3 (some 90)) 86 4 (-1)) 86 9 (some 4)) 85 0 (some 86)) 91) 85 1 (some 91)) 85 2 (some 4)) 85 3 (some 60))
set_option maxRecDepth 100000 in
theorem sg_X4_85_0 (m : Nat) (σ : St_) : evN_ PN_X4_init (m + 8) 0 [some (.ref 85), some (.ref 4), some (.ref 60)] [] (86, σ) = evN_ PN_X4_init m 16 [some (.ref 85), some (.ref 4), some (.ref 60)] [] (91, (sR_ (sR_ (sI_ (sR_ (zr_ (sR_ (zr_ (sR_ (zr_ (sR_ (zr_ (zr_ σ 86) 87) 86 0 (some 87)) 88) 86 1 (some 88)) 89) 86 2 (some 89)) 90) 86 3 (some 90)) 86 4 (-1)) 86 9 (some 4)) 85 0 (some 86))) := rfl
set_option maxRecDepth 100000 in
theorem sg_X4_85_1 (m : Nat) (σ : St_) : evN_ PN_X4_init (m + 4) 16 [some (.ref 85), some (.ref 4), some (.ref 60)] [] (91, σ) = evN_ PN_X4_init m 24 [some (.ref 85), some (.ref 4), some (.ref 60)] [] (92, (sR_ (zr_ σ 91) 85 1 (some 91))) := rfl
set_option maxRecDepth 100000 in
theorem sg_X4_85_2 (m : Nat) (σ : St_) : evN_ PN_X4_init (m + 6) 24 [some (.ref 85), some (.ref 4), some (.ref 60)] [] (92, σ) = evN_ PN_X4_init m 34 [some (.ref 85), some (.ref 4), some (.ref 60)] [] (92, (sR_ (sR_ σ 85 2 (some 4)) 85 3 (some 60))) := rfl
set_option maxRecDepth 100000 in
theorem sg_X4_85_z (m : Nat) (σ : St_) : evN_ PN_X4_init (m + 1) 34 [some (.ref 85), some (.ref 4), some (.ref 60)] [] (92, σ) = some (92, σ) := rfl
set_option maxRecDepth 100000 in
theorem ev_X4_85 (σ : St_) : hn_X4_init [.ref 85, .ref 4, .ref 60] (86, σ) = some (92, sx_X4_85 σ) := hnF_eq (P := PN_X4_init) (nL := 3) (fuel := 150) rfl rfl ((sg_X4_85_0 142 _).trans ((sg_X4_85_1 138 _).trans ((sg_X4_85_2 132 _).trans ((sg_X4_85_z 131 _)))))
def sx_X3_92 (σ : St_) : St_ := (sR_ (zr_ (sR_ (sR_ (sI_ (sR_ (zr_ (sR_ (zr_ (sR_ (zr_ (sR_ (zr_ (zr_ σ 93) 94) 93 0 (some 94)) 95) 93 1 (some 95)) 96) 93 2 (some 96)) 97) 93 3 (some 97)) 93 4 (-1)) 93 9 (some 4)) 92 0 (some 93)) 98) 92 1 (some 98))
set_option maxRecDepth 100000 in
theorem sg_X3_92_0 (m : Nat) (σ : St_) : evN_ PN_X3_init (m + 8) 0 [some (.ref 92), some (.ref 4)] [] (93, σ) = evN_ PN_X3_init m 16 [some (.ref 92), some (.ref 4)] [] (98, (sR_ (sR_ (sI_ (sR_ (zr_ (sR_ (zr_ (sR_ (zr_ (sR_ (zr_ (zr_ σ 93) 94) 93 0 (some 94)) 95) 93 1 (some 95)) 96) 93 2 (some 96)) 97) 93 3 (some 97)) 93 4 (-1)) 93 9 (some 4)) 92 0 (some 93))) := rfl
set_option maxRecDepth 100000 in
theorem sg_X3_92_1 (m : Nat) (σ : St_) : evN_ PN_X3_init (m + 4) 16 [some (.ref 92), some (.ref 4)] [] (98, σ) = evN_ PN_X3_init m 24 [some (.ref 92), some (.ref 4)] [] (99, (sR_ (zr_ σ 98) 92 1 (some 98))) := rfl
set_option maxRecDepth 100000 in
theorem sg_X3_92_z (m : Nat) (σ : St_) : evN_ PN_X3_init (m + 1) 24 [some (.ref 92), some (.ref 4)] [] (99, σ) = some (99, σ) := rfl
set_option maxRecDepth 100000 in
theorem ev_X3_92 (σ : St_) : hn_X3_init [.ref 92, .ref 4] (93, σ) = some (99, sx_X3_92 σ) := hnF_eq (P := PN_X3_init) (nL := 2) (fuel := 150) rfl rfl ((sg_X3_92_0 142 _).trans ((sg_X3_92_1 138 _).trans ((sg_X3_92_z 137 _))))
def sx_X10_99 (σ : St_) : St_ := (sR_ (sR_ (zr_ (sR_ (zr_ (sR_ (zr_ (sR_ (zr_ (sR_ (zr_ σ 100) 99 0 (some 100)) 101) 99 2 (some 101)) 102) 99 3 (some 102)) 103) 99 4 (some 103)) 104) 99 5 (some 104)) 99 6 (some 4))
set_option maxRecDepth 100000 in
theorem sg_X10_99_0 (m : Nat) (σ : St_) : evN_ PN_X10_init (m + 6) 0 [some (.ref 99), some (.ref 4)] [] (100, σ) = evN_ PN_X10_init m 12 [some (.ref 99), some (.ref 4)] [] (101, (sR_ (zr_ σ 100) 99 0 (some 100))) := rfl
set_option maxRecDepth 100000 in
theorem sg_X10_99_1 (m : Nat) (σ : St_) : evN_ PN_X10_init (m + 4) 12 [some (.ref 99), some (.ref 4)] [] (101, σ) = evN_ PN_X10_init m 20 [some (.ref 99), some (.ref 4)] [] (102, (sR_ (zr_ σ 101) 99 2 (some 101))) := rfl
set_option maxRecDepth 100000 in
theorem sg_X10_99_2 (m : Nat) (σ : St_) : evN_ PN_X10_init (m + 4) 20 [some (.ref 99), some (.ref 4)] [] (102, σ) = evN_ PN_X10_init m 27 [some (.ref 99), some (.ref 4)] [] (103, (sR_ (zr_ σ 102) 99 3 (some 102))) := rfl
set_option maxRecDepth 100000 in
theorem sg_X10_99_3 (m : Nat) (σ : St_) : evN_ PN_X10_init (m + 4) 27 [some (.ref 99), some (.ref 4)] [] (103, σ) = evN_ PN_X10_init m 35 [some (.ref 99), some (.ref 4)] [] (104, (sR_ (zr_ σ 103) 99 4 (some 103))) := rfl
set_option maxRecDepth 100000 in
theorem sg_X10_99_4 (m : Nat) (σ : St_) : evN_ PN_X10_init (m + 4) 35 [some (.ref 99), some (.ref 4)] [] (104, σ) = evN_ PN_X10_init m 43 [some (.ref 99), some (.ref 4)] [] (105, (sR_ (zr_ σ 104) 99 5 (some 104))) := rfl
set_option maxRecDepth 100000 in
theorem sg_X10_99_5 (m : Nat) (σ : St_) : evN_ PN_X10_init (m + 3) 43 [some (.ref 99), some (.ref 4)] [] (105, σ) = evN_ PN_X10_init m 48 [some (.ref 99), some (.ref 4)] [] (105, (sR_ σ 99 6 (some 4))) := rfl
set_option maxRecDepth 100000 in
theorem sg_X10_99_z (m : Nat) (σ : St_) : evN_ PN_X10_init (m + 1) 48 [some (.ref 99), some (.ref 4)] [] (105, σ) = some (105, σ) := rfl
set_option maxRecDepth 100000 in
theorem ev_X10_99 (σ : St_) : hn_X10_init [.ref 99, .ref 4] (100, σ) = some (105, sx_X10_99 σ) := hnF_eq (P := PN_X10_init) (nL := 2) (fuel := 150) rfl rfl ((sg_X10_99_0 144 _).trans ((sg_X10_99_1 140 _).trans ((sg_X10_99_2 136 _).trans ((sg_X10_99_3 132 _).trans ((sg_X10_99_4 128 _).trans ((sg_X10_99_5 125 _).trans ((sg_X10_99_z 124 _))))))))
def sx_X2_105 (σ : St_) : St_ := (sR_ (gz_ (sR_ (gz_ (sI_ (sI_ (sR_ (zr_ σ 106) 105 0 (some 106)) 105 1 0) 105 2 (-1)) 107 10) 105 3 (some 107)) 118 10) 105 4 (some 118))
set_option maxRecDepth 100000 in
theorem sg_X2_105_0 (m : Nat) (σ : St_) : evN_ PN_X2_init (m + 6) 0 [some (.ref 105)] [] (106, σ) = evN_ PN_X2_init m 12 [some (.ref 105)] [] (107, (sR_ (zr_ σ 106) 105 0 (some 106))) := rfl
set_option maxRecDepth 100000 in
theorem sg_X2_105_1 (m : Nat) (σ : St_) : evN_ PN_X2_init (m + 6) 12 [some (.ref 105)] [] (107, σ) = evN_ PN_X2_init m 22 [some (.ref 105)] [] (107, (sI_ (sI_ σ 105 1 0) 105 2 (-1))) := rfl
set_option maxRecDepth 100000 in
theorem sg_X2_105_2 (m : Nat) (σ : St_) : evN_ PN_X2_init (m + 5) 22 [some (.ref 105)] [] (107, σ) = evN_ PN_X2_init m 34 [some (.ref 105)] [] (118, (sR_ (gz_ σ 107 10) 105 3 (some 107))) := rfl
set_option maxRecDepth 100000 in
theorem sg_X2_105_3 (m : Nat) (σ : St_) : evN_ PN_X2_init (m + 5) 34 [some (.ref 105)] [] (118, σ) = evN_ PN_X2_init m 46 [some (.ref 105)] [] (129, (sR_ (gz_ σ 118 10) 105 4 (some 118))) := rfl
set_option maxRecDepth 100000 in
theorem sg_X2_105_z (m : Nat) (σ : St_) : evN_ PN_X2_init (m + 1) 46 [some (.ref 105)] [] (129, σ) = some (129, σ) := rfl
set_option maxRecDepth 100000 in
theorem ev_X2_105 (σ : St_) : hn_X2_init [.ref 105] (106, σ) = some (129, sx_X2_105 σ) := hnF_eq (P := PN_X2_init) (nL := 1) (fuel := 150) rfl rfl ((sg_X2_105_0 144 _).trans ((sg_X2_105_1 138 _).trans ((sg_X2_105_2 133 _).trans ((sg_X2_105_3 128 _).trans ((sg_X2_105_z 127 _))))))
def sx_X7_129 (σ : St_) : St_ := (sR_ (sR_ (zr_ (sR_ (zr_ (sI_ (sR_ (zr_ σ 130) 129 0 (some 130)) 129 1 0) 131) 129 2 (some 131)) 132) 129 3 (some 132)) 129 4 (some 4))
set_option maxRecDepth 100000 in
theorem sg_X7_129_0 (m : Nat) (σ : St_) : evN_ PN_X7_init (m + 6) 0 [some (.ref 129), some (.ref 4)] [] (130, σ) = evN_ PN_X7_init m 12 [some (.ref 129), some (.ref 4)] [] (131, (sR_ (zr_ σ 130) 129 0 (some 130))) := rfl
set_option maxRecDepth 100000 in
theorem sg_X7_129_1 (m : Nat) (σ : St_) : evN_ PN_X7_init (m + 7) 12 [some (.ref 129), some (.ref 4)] [] (131, σ) = evN_ PN_X7_init m 25 [some (.ref 129), some (.ref 4)] [] (132, (sR_ (zr_ (sI_ σ 129 1 0) 131) 129 2 (some 131))) := rfl
set_option maxRecDepth 100000 in
theorem sg_X7_129_2 (m : Nat) (σ : St_) : evN_ PN_X7_init (m + 4) 25 [some (.ref 129), some (.ref 4)] [] (132, σ) = evN_ PN_X7_init m 33 [some (.ref 129), some (.ref 4)] [] (133, (sR_ (zr_ σ 132) 129 3 (some 132))) := rfl
set_option maxRecDepth 100000 in
theorem sg_X7_129_3 (m : Nat) (σ : St_) : evN_ PN_X7_init (m + 3) 33 [some (.ref 129), some (.ref 4)] [] (133, σ) = evN_ PN_X7_init m 38 [some (.ref 129), some (.ref 4)] [] (133, (sR_ σ 129 4 (some 4))) := rfl
set_option maxRecDepth 100000 in
theorem sg_X7_129_z (m : Nat) (σ : St_) : evN_ PN_X7_init (m + 1) 38 [some (.ref 129), some (.ref 4)] [] (133, σ) = some (133, σ) := rfl
set_option maxRecDepth 100000 in
theorem ev_X7_129 (σ : St_) : hn_X7_init [.ref 129, .ref 4] (130, σ) = some (133, sx_X7_129 σ) := hnF_eq (P := PN_X7_init) (nL := 2) (fuel := 150) rfl rfl ((sg_X7_129_0 144 _).trans ((sg_X7_129_1 137 _).trans ((sg_X7_129_2 133 _).trans ((sg_X7_129_3 130 _).trans ((sg_X7_129_z 129 _))))))
def sx_X1_133 (σ : St_) : St_ := (sR_ (sR_ (zr_ (sR_ (zr_ (sR_ (zr_ (sR_ (zr_ (sR_ (zr_ (sI_ σ 133 2 (-1)) 134) 133 3 (some 134)) 135) 133 4 (some 135)) 136) 133 5 (some 136)) 137) 133 6 (some 137)) 138) 133 7 (some 138)) 133 8 (some 4))
set_option maxRecDepth 100000 in
theorem sg_X1_133_0 (m : Nat) (σ : St_) : evN_ PN_X1_init (m + 5) 0 [some (.ref 133), some (.ref 4)] [] (134, σ) = evN_ PN_X1_init m 9 [some (.ref 133), some (.ref 4)] [] (134, (sI_ σ 133 2 (-1))) := rfl
set_option maxRecDepth 100000 in
theorem sg_X1_133_1 (m : Nat) (σ : St_) : evN_ PN_X1_init (m + 4) 9 [some (.ref 133), some (.ref 4)] [] (134, σ) = evN_ PN_X1_init m 18 [some (.ref 133), some (.ref 4)] [] (135, (sR_ (zr_ σ 134) 133 3 (some 134))) := rfl
set_option maxRecDepth 100000 in
theorem sg_X1_133_2 (m : Nat) (σ : St_) : evN_ PN_X1_init (m + 4) 18 [some (.ref 133), some (.ref 4)] [] (135, σ) = evN_ PN_X1_init m 27 [some (.ref 133), some (.ref 4)] [] (136, (sR_ (zr_ σ 135) 133 4 (some 135))) := rfl
set_option maxRecDepth 100000 in
theorem sg_X1_133_3 (m : Nat) (σ : St_) : evN_ PN_X1_init (m + 4) 27 [some (.ref 133), some (.ref 4)] [] (136, σ) = evN_ PN_X1_init m 36 [some (.ref 133), some (.ref 4)] [] (137, (sR_ (zr_ σ 136) 133 5 (some 136))) := rfl
set_option maxRecDepth 100000 in
theorem sg_X1_133_4 (m : Nat) (σ : St_) : evN_ PN_X1_init (m + 4) 36 [some (.ref 133), some (.ref 4)] [] (137, σ) = evN_ PN_X1_init m 44 [some (.ref 133), some (.ref 4)] [] (138, (sR_ (zr_ σ 137) 133 6 (some 137))) := rfl
set_option maxRecDepth 100000 in
theorem sg_X1_133_5 (m : Nat) (σ : St_) : evN_ PN_X1_init (m + 4) 44 [some (.ref 133), some (.ref 4)] [] (138, σ) = evN_ PN_X1_init m 52 [some (.ref 133), some (.ref 4)] [] (139, (sR_ (zr_ σ 138) 133 7 (some 138))) := rfl
set_option maxRecDepth 100000 in
theorem sg_X1_133_6 (m : Nat) (σ : St_) : evN_ PN_X1_init (m + 3) 52 [some (.ref 133), some (.ref 4)] [] (139, σ) = evN_ PN_X1_init m 57 [some (.ref 133), some (.ref 4)] [] (139, (sR_ σ 133 8 (some 4))) := rfl
set_option maxRecDepth 100000 in
theorem sg_X1_133_z (m : Nat) (σ : St_) : evN_ PN_X1_init (m + 1) 57 [some (.ref 133), some (.ref 4)] [] (139, σ) = some (139, σ) := rfl
set_option maxRecDepth 100000 in
theorem ev_X1_133 (σ : St_) : hn_X1_init [.ref 133, .ref 4] (134, σ) = some (139, sx_X1_133 σ) := hnF_eq (P := PN_X1_init) (nL := 2) (fuel := 150) rfl rfl ((sg_X1_133_0 145 _).trans ((sg_X1_133_1 141 _).trans ((sg_X1_133_2 137 _).trans ((sg_X1_133_3 133 _).trans ((sg_X1_133_4 129 _).trans ((sg_X1_133_5 125 _).trans ((sg_X1_133_6 122 _).trans ((sg_X1_133_z 121 _)))))))))
def sx_X0_143 (σ : St_) : St_ := (sI_ (sI_ (sI_ (sI_ (sI_ (sI_ (sI_ (sR_ (zr_ (sR_ (zr_ (sR_ (zr_ (sR_ (zr_ (sR_ (zr_ (sR_ (zr_ (sR_ (gz_ (sR_ (zr_ (sR_ (zr_ (sR_ (zr_ (sR_ (zr_ σ 144) 143 0 (some 144)) 145) 143 1 (some 145)) 146) 143 2 (some 146)) 147) 143 3 (some 147)) 148 16) 143 4 (some 148)) 165) 143 5 (some 165)) 166) 143 6 (some 166)) 167) 143 7 (some 167)) 168) 143 8 (some 168)) 169) 143 9 (some 169)) 170) 143 10 (some 170)) 143 11 0) 143 12 0) 143 13 0) 143 14 20) 143 15 8) 143 16 0) 143 17 0)
set_option maxRecDepth 100000 in
theorem sg_X0_143_0 (m : Nat) (σ : St_) : evN_ PN_X0_init (m + 6) 0 [some (.ref 143)] [] (144, σ) = evN_ PN_X0_init m 12 [some (.ref 143)] [] (145, (sR_ (zr_ σ 144) 143 0 (some 144))) := rfl
set_option maxRecDepth 100000 in
theorem sg_X0_143_1 (m : Nat) (σ : St_) : evN_ PN_X0_init (m + 4) 12 [some (.ref 143)] [] (145, σ) = evN_ PN_X0_init m 20 [some (.ref 143)] [] (146, (sR_ (zr_ σ 145) 143 1 (some 145))) := rfl
set_option maxRecDepth 100000 in
theorem sg_X0_143_2 (m : Nat) (σ : St_) : evN_ PN_X0_init (m + 4) 20 [some (.ref 143)] [] (146, σ) = evN_ PN_X0_init m 28 [some (.ref 143)] [] (147, (sR_ (zr_ σ 146) 143 2 (some 146))) := rfl
set_option maxRecDepth 100000 in
theorem sg_X0_143_3 (m : Nat) (σ : St_) : evN_ PN_X0_init (m + 4) 28 [some (.ref 143)] [] (147, σ) = evN_ PN_X0_init m 36 [some (.ref 143)] [] (148, (sR_ (zr_ σ 147) 143 3 (some 147))) := rfl
set_option maxRecDepth 100000 in
theorem sg_X0_143_4 (m : Nat) (σ : St_) : evN_ PN_X0_init (m + 5) 36 [some (.ref 143)] [] (148, σ) = evN_ PN_X0_init m 48 [some (.ref 143)] [] (165, (sR_ (gz_ σ 148 16) 143 4 (some 148))) := rfl
set_option maxRecDepth 100000 in
theorem sg_X0_143_5 (m : Nat) (σ : St_) : evN_ PN_X0_init (m + 4) 48 [some (.ref 143)] [] (165, σ) = evN_ PN_X0_init m 56 [some (.ref 143)] [] (166, (sR_ (zr_ σ 165) 143 5 (some 165))) := rfl
set_option maxRecDepth 100000 in
theorem sg_X0_143_6 (m : Nat) (σ : St_) : evN_ PN_X0_init (m + 4) 56 [some (.ref 143)] [] (166, σ) = evN_ PN_X0_init m 64 [some (.ref 143)] [] (167, (sR_ (zr_ σ 166) 143 6 (some 166))) := rfl
set_option maxRecDepth 100000 in
theorem sg_X0_143_7 (m : Nat) (σ : St_) : evN_ PN_X0_init (m + 4) 64 [some (.ref 143)] [] (167, σ) = evN_ PN_X0_init m 72 [some (.ref 143)] [] (168, (sR_ (zr_ σ 167) 143 7 (some 167))) := rfl
set_option maxRecDepth 100000 in
theorem sg_X0_143_8 (m : Nat) (σ : St_) : evN_ PN_X0_init (m + 4) 72 [some (.ref 143)] [] (168, σ) = evN_ PN_X0_init m 80 [some (.ref 143)] [] (169, (sR_ (zr_ σ 168) 143 8 (some 168))) := rfl
set_option maxRecDepth 100000 in
theorem sg_X0_143_9 (m : Nat) (σ : St_) : evN_ PN_X0_init (m + 4) 80 [some (.ref 143)] [] (169, σ) = evN_ PN_X0_init m 88 [some (.ref 143)] [] (170, (sR_ (zr_ σ 169) 143 9 (some 169))) := rfl
set_option maxRecDepth 100000 in
theorem sg_X0_143_10 (m : Nat) (σ : St_) : evN_ PN_X0_init (m + 4) 88 [some (.ref 143)] [] (170, σ) = evN_ PN_X0_init m 96 [some (.ref 143)] [] (171, (sR_ (zr_ σ 170) 143 10 (some 170))) := rfl
set_option maxRecDepth 100000 in
theorem sg_X0_143_11 (m : Nat) (σ : St_) : evN_ PN_X0_init (m + 2) 96 [some (.ref 143)] [] (171, σ) = evN_ PN_X0_init m 100 [some (.ref 143)] [] (171, (sI_ (sI_ (sI_ (sI_ (sI_ (sI_ (sI_ σ 143 11 0) 143 12 0) 143 13 0) 143 14 20) 143 15 8) 143 16 0) 143 17 0)) := rfl
set_option maxRecDepth 100000 in
theorem sg_X0_143_z (m : Nat) (σ : St_) : evN_ PN_X0_init (m + 1) 100 [some (.ref 143)] [] (171, σ) = some (171, σ) := rfl
set_option maxRecDepth 100000 in
theorem ev_X0_143 (σ : St_) : hn_X0_init [.ref 143] (144, σ) = some (171, sx_X0_143 σ) := hnF_eq (P := PN_X0_init) (nL := 1) (fuel := 150) rfl rfl ((sg_X0_143_0 144 _).trans ((sg_X0_143_1 140 _).trans ((sg_X0_143_2 136 _).trans ((sg_X0_143_3 132 _).trans ((sg_X0_143_4 127 _).trans ((sg_X0_143_5 123 _).trans ((sg_X0_143_6 119 _).trans ((sg_X0_143_7 115 _).trans ((sg_X0_143_8 111 _).trans ((sg_X0_143_9 107 _).trans ((sg_X0_143_10 103 _).trans ((sg_X0_143_11 101 _).trans ((sg_X0_143_z 100 _))))))))))))))
def sx_X6_171 (σ : St_) : St_ := (sI_ (sR_ (zr_ (sR_ (zr_ (sR_ (zr_ (sR_ (zr_ σ 172) 171 0 (some 172)) 173) 171 1 (some 173)) 174) 171 2 (some 174)) 175) 171 3 (some 175)) 171 4 0)
set_option maxRecDepth 100000 in
theorem sg_X6_171_0 (m : Nat) (σ : St_) : evN_ PN_X6_init (m + 6) 0 [some (.ref 171)] [] (172, σ) = evN_ PN_X6_init m 12 [some (.ref 171)] [] (173, (sR_ (zr_ σ 172) 171 0 (some 172))) := rfl
set_option maxRecDepth 100000 in
theorem sg_X6_171_1 (m : Nat) (σ : St_) : evN_ PN_X6_init (m + 4) 12 [some (.ref 171)] [] (173, σ) = evN_ PN_X6_init m 20 [some (.ref 171)] [] (174, (sR_ (zr_ σ 173) 171 1 (some 173))) := rfl
set_option maxRecDepth 100000 in
theorem sg_X6_171_2 (m : Nat) (σ : St_) : evN_ PN_X6_init (m + 4) 20 [some (.ref 171)] [] (174, σ) = evN_ PN_X6_init m 28 [some (.ref 171)] [] (175, (sR_ (zr_ σ 174) 171 2 (some 174))) := rfl
set_option maxRecDepth 100000 in
theorem sg_X6_171_3 (m : Nat) (σ : St_) : evN_ PN_X6_init (m + 4) 28 [some (.ref 171)] [] (175, σ) = evN_ PN_X6_init m 36 [some (.ref 171)] [] (176, (sR_ (zr_ σ 175) 171 3 (some 175))) := rfl
set_option maxRecDepth 100000 in
theorem sg_X6_171_4 (m : Nat) (σ : St_) : evN_ PN_X6_init (m + 3) 36 [some (.ref 171)] [] (176, σ) = evN_ PN_X6_init m 41 [some (.ref 171)] [] (176, (sI_ σ 171 4 0)) := rfl
set_option maxRecDepth 100000 in
theorem sg_X6_171_z (m : Nat) (σ : St_) : evN_ PN_X6_init (m + 1) 41 [some (.ref 171)] [] (176, σ) = some (176, σ) := rfl
set_option maxRecDepth 100000 in
theorem ev_X6_171 (σ : St_) : hn_X6_init [.ref 171] (172, σ) = some (176, sx_X6_171 σ) := hnF_eq (P := PN_X6_init) (nL := 1) (fuel := 150) rfl rfl ((sg_X6_171_0 144 _).trans ((sg_X6_171_1 140 _).trans ((sg_X6_171_2 136 _).trans ((sg_X6_171_3 132 _).trans ((sg_X6_171_4 129 _).trans ((sg_X6_171_z 128 _)))))))
def sx_X9_176 (σ : St_) : St_ := (sI_ (sI_ (sR_ (zr_ (sR_ (zr_ (sR_ (zr_ (sR_ (zr_ σ 177) 176 0 (some 177)) 178) 176 1 (some 178)) 179) 176 2 (some 179)) 180) 176 3 (some 180)) 176 4 0) 176 5 0)
set_option maxRecDepth 100000 in
theorem sg_X9_176_0 (m : Nat) (σ : St_) : evN_ PN_X9_init (m + 6) 0 [some (.ref 176)] [] (177, σ) = evN_ PN_X9_init m 12 [some (.ref 176)] [] (178, (sR_ (zr_ σ 177) 176 0 (some 177))) := rfl
set_option maxRecDepth 100000 in
theorem sg_X9_176_1 (m : Nat) (σ : St_) : evN_ PN_X9_init (m + 4) 12 [some (.ref 176)] [] (178, σ) = evN_ PN_X9_init m 20 [some (.ref 176)] [] (179, (sR_ (zr_ σ 178) 176 1 (some 178))) := rfl
set_option maxRecDepth 100000 in
theorem sg_X9_176_2 (m : Nat) (σ : St_) : evN_ PN_X9_init (m + 4) 20 [some (.ref 176)] [] (179, σ) = evN_ PN_X9_init m 28 [some (.ref 176)] [] (180, (sR_ (zr_ σ 179) 176 2 (some 179))) := rfl
set_option maxRecDepth 100000 in
theorem sg_X9_176_3 (m : Nat) (σ : St_) : evN_ PN_X9_init (m + 4) 28 [some (.ref 176)] [] (180, σ) = evN_ PN_X9_init m 36 [some (.ref 176)] [] (181, (sR_ (zr_ σ 180) 176 3 (some 180))) := rfl
set_option maxRecDepth 100000 in
theorem sg_X9_176_4 (m : Nat) (σ : St_) : evN_ PN_X9_init (m + 6) 36 [some (.ref 176)] [] (181, σ) = evN_ PN_X9_init m 46 [some (.ref 176)] [] (181, (sI_ (sI_ σ 176 4 0) 176 5 0)) := rfl
set_option maxRecDepth 100000 in
theorem sg_X9_176_z (m : Nat) (σ : St_) : evN_ PN_X9_init (m + 1) 46 [some (.ref 176)] [] (181, σ) = some (181, σ) := rfl
set_option maxRecDepth 100000 in
theorem ev_X9_176 (σ : St_) : hn_X9_init [.ref 176] (177, σ) = some (181, sx_X9_176 σ) := hnF_eq (P := PN_X9_init) (nL := 1) (fuel := 150) rfl rfl ((sg_X9_176_0 144 _).trans ((sg_X9_176_1 140 _).trans ((sg_X9_176_2 136 _).trans ((sg_X9_176_3 132 _).trans ((sg_X9_176_4 126 _).trans ((sg_X9_176_z 125 _)))))))
def sx_X0_181 (σ : St_) : St_ := (sI_ (sI_ (sI_ (sI_ (sI_ (sI_ (sI_ (sR_ (zr_ (sR_ (zr_ (sR_ (zr_ (sR_ (zr_ (sR_ (zr_ (sR_ (zr_ (sR_ (gz_ (sR_ (zr_ (sR_ (zr_ (sR_ (zr_ (sR_ (zr_ σ 182) 181 0 (some 182)) 183) 181 1 (some 183)) 184) 181 2 (some 184)) 185) 181 3 (some 185)) 186 16) 181 4 (some 186)) 203) 181 5 (some 203)) 204) 181 6 (some 204)) 205) 181 7 (some 205)) 206) 181 8 (some 206)) 207) 181 9 (some 207)) 208) 181 10 (some 208)) 181 11 0) 181 12 0) 181 13 0) 181 14 20) 181 15 8) 181 16 0) 181 17 0)
set_option maxRecDepth 100000 in
theorem sg_X0_181_0 (m : Nat) (σ : St_) : evN_ PN_X0_init (m + 6) 0 [some (.ref 181)] [] (182, σ) = evN_ PN_X0_init m 12 [some (.ref 181)] [] (183, (sR_ (zr_ σ 182) 181 0 (some 182))) := rfl
set_option maxRecDepth 100000 in
theorem sg_X0_181_1 (m : Nat) (σ : St_) : evN_ PN_X0_init (m + 4) 12 [some (.ref 181)] [] (183, σ) = evN_ PN_X0_init m 20 [some (.ref 181)] [] (184, (sR_ (zr_ σ 183) 181 1 (some 183))) := rfl
set_option maxRecDepth 100000 in
theorem sg_X0_181_2 (m : Nat) (σ : St_) : evN_ PN_X0_init (m + 4) 20 [some (.ref 181)] [] (184, σ) = evN_ PN_X0_init m 28 [some (.ref 181)] [] (185, (sR_ (zr_ σ 184) 181 2 (some 184))) := rfl
set_option maxRecDepth 100000 in
theorem sg_X0_181_3 (m : Nat) (σ : St_) : evN_ PN_X0_init (m + 4) 28 [some (.ref 181)] [] (185, σ) = evN_ PN_X0_init m 36 [some (.ref 181)] [] (186, (sR_ (zr_ σ 185) 181 3 (some 185))) := rfl
set_option maxRecDepth 100000 in
theorem sg_X0_181_4 (m : Nat) (σ : St_) : evN_ PN_X0_init (m + 5) 36 [some (.ref 181)] [] (186, σ) = evN_ PN_X0_init m 48 [some (.ref 181)] [] (203, (sR_ (gz_ σ 186 16) 181 4 (some 186))) := rfl
set_option maxRecDepth 100000 in
theorem sg_X0_181_5 (m : Nat) (σ : St_) : evN_ PN_X0_init (m + 4) 48 [some (.ref 181)] [] (203, σ) = evN_ PN_X0_init m 56 [some (.ref 181)] [] (204, (sR_ (zr_ σ 203) 181 5 (some 203))) := rfl
set_option maxRecDepth 100000 in
theorem sg_X0_181_6 (m : Nat) (σ : St_) : evN_ PN_X0_init (m + 4) 56 [some (.ref 181)] [] (204, σ) = evN_ PN_X0_init m 64 [some (.ref 181)] [] (205, (sR_ (zr_ σ 204) 181 6 (some 204))) := rfl
set_option maxRecDepth 100000 in
theorem sg_X0_181_7 (m : Nat) (σ : St_) : evN_ PN_X0_init (m + 4) 64 [some (.ref 181)] [] (205, σ) = evN_ PN_X0_init m 72 [some (.ref 181)] [] (206, (sR_ (zr_ σ 205) 181 7 (some 205))) := rfl
set_option maxRecDepth 100000 in
theorem sg_X0_181_8 (m : Nat) (σ : St_) : evN_ PN_X0_init (m + 4) 72 [some (.ref 181)] [] (206, σ) = evN_ PN_X0_init m 80 [some (.ref 181)] [] (207, (sR_ (zr_ σ 206) 181 8 (some 206))) := rfl
set_option maxRecDepth 100000 in
theorem sg_X0_181_9 (m : Nat) (σ : St_) : evN_ PN_X0_init (m + 4) 80 [some (.ref 181)] [] (207, σ) = evN_ PN_X0_init m 88 [some (.ref 181)] [] (208, (sR_ (zr_ σ 207) 181 9 (some 207))) := rfl
set_option maxRecDepth 100000 in
theorem sg_X0_181_10 (m : Nat) (σ : St_) : evN_ PN_X0_init (m + 4) 88 [some (.ref 181)] [] (208, σ) = evN_ PN_X0_init m 96 [some (.ref 181)] [] (209, (sR_ (zr_ σ 208) 181 10 (some 208))) := rfl
set_option maxRecDepth 100000 in
theorem sg_X0_181_11 (m : Nat) (σ : St_) : evN_ PN_X0_init (m + 2) 96 [some (.ref 181)] [] (209, σ) = evN_ PN_X0_init m 100 [some (.ref 181)] [] (209, (sI_ (sI_ (sI_ (sI_ (sI_ (sI_ (sI_ σ 181 11 0) 181 12 0) 181 13 0) 181 14 20) 181 15 8) 181 16 0) 181 17 0)) := rfl
set_option maxRecDepth 100000 in
theorem sg_X0_181_z (m : Nat) (σ : St_) : evN_ PN_X0_init (m + 1) 100 [some (.ref 181)] [] (209, σ) = some (209, σ) := rfl
set_option maxRecDepth 100000 in
theorem ev_X0_181 (σ : St_) : hn_X0_init [.ref 181] (182, σ) = some (209, sx_X0_181 σ) := hnF_eq (P := PN_X0_init) (nL := 1) (fuel := 150) rfl rfl ((sg_X0_181_0 144 _).trans ((sg_X0_181_1 140 _).trans ((sg_X0_181_2 136 _).trans ((sg_X0_181_3 132 _).trans ((sg_X0_181_4 127 _).trans ((sg_X0_181_5 123 _).trans ((sg_X0_181_6 119 _).trans ((sg_X0_181_7 115 _).trans ((sg_X0_181_8 111 _).trans ((sg_X0_181_9 107 _).trans ((sg_X0_181_10 103 _).trans ((sg_X0_181_11 101 _).trans ((sg_X0_181_z 100 _))))))))))))))
def sx_X6_209 (σ : St_) : St_ := (sI_ (sR_ (zr_ (sR_ (zr_ (sR_ (zr_ (sR_ (zr_ σ 210) 209 0 (some 210)) 211) 209 1 (some 211)) 212) 209 2 (some 212)) 213) 209 3 (some 213)) 209 4 0)
set_option maxRecDepth 100000 in
theorem sg_X6_209_0 (m : Nat) (σ : St_) : evN_ PN_X6_init (m + 6) 0 [some (.ref 209)] [] (210, σ) = evN_ PN_X6_init m 12 [some (.ref 209)] [] (211, (sR_ (zr_ σ 210) 209 0 (some 210))) := rfl
set_option maxRecDepth 100000 in
theorem sg_X6_209_1 (m : Nat) (σ : St_) : evN_ PN_X6_init (m + 4) 12 [some (.ref 209)] [] (211, σ) = evN_ PN_X6_init m 20 [some (.ref 209)] [] (212, (sR_ (zr_ σ 211) 209 1 (some 211))) := rfl
set_option maxRecDepth 100000 in
theorem sg_X6_209_2 (m : Nat) (σ : St_) : evN_ PN_X6_init (m + 4) 20 [some (.ref 209)] [] (212, σ) = evN_ PN_X6_init m 28 [some (.ref 209)] [] (213, (sR_ (zr_ σ 212) 209 2 (some 212))) := rfl
set_option maxRecDepth 100000 in
theorem sg_X6_209_3 (m : Nat) (σ : St_) : evN_ PN_X6_init (m + 4) 28 [some (.ref 209)] [] (213, σ) = evN_ PN_X6_init m 36 [some (.ref 209)] [] (214, (sR_ (zr_ σ 213) 209 3 (some 213))) := rfl
set_option maxRecDepth 100000 in
theorem sg_X6_209_4 (m : Nat) (σ : St_) : evN_ PN_X6_init (m + 3) 36 [some (.ref 209)] [] (214, σ) = evN_ PN_X6_init m 41 [some (.ref 209)] [] (214, (sI_ σ 209 4 0)) := rfl
set_option maxRecDepth 100000 in
theorem sg_X6_209_z (m : Nat) (σ : St_) : evN_ PN_X6_init (m + 1) 41 [some (.ref 209)] [] (214, σ) = some (214, σ) := rfl
set_option maxRecDepth 100000 in
theorem ev_X6_209 (σ : St_) : hn_X6_init [.ref 209] (210, σ) = some (214, sx_X6_209 σ) := hnF_eq (P := PN_X6_init) (nL := 1) (fuel := 150) rfl rfl ((sg_X6_209_0 144 _).trans ((sg_X6_209_1 140 _).trans ((sg_X6_209_2 136 _).trans ((sg_X6_209_3 132 _).trans ((sg_X6_209_4 129 _).trans ((sg_X6_209_z 128 _)))))))
def sx_X9_214 (σ : St_) : St_ := (sI_ (sI_ (sR_ (zr_ (sR_ (zr_ (sR_ (zr_ (sR_ (zr_ σ 215) 214 0 (some 215)) 216) 214 1 (some 216)) 217) 214 2 (some 217)) 218) 214 3 (some 218)) 214 4 0) 214 5 0)
set_option maxRecDepth 100000 in
theorem sg_X9_214_0 (m : Nat) (σ : St_) : evN_ PN_X9_init (m + 6) 0 [some (.ref 214)] [] (215, σ) = evN_ PN_X9_init m 12 [some (.ref 214)] [] (216, (sR_ (zr_ σ 215) 214 0 (some 215))) := rfl
set_option maxRecDepth 100000 in
theorem sg_X9_214_1 (m : Nat) (σ : St_) : evN_ PN_X9_init (m + 4) 12 [some (.ref 214)] [] (216, σ) = evN_ PN_X9_init m 20 [some (.ref 214)] [] (217, (sR_ (zr_ σ 216) 214 1 (some 216))) := rfl
set_option maxRecDepth 100000 in
theorem sg_X9_214_2 (m : Nat) (σ : St_) : evN_ PN_X9_init (m + 4) 20 [some (.ref 214)] [] (217, σ) = evN_ PN_X9_init m 28 [some (.ref 214)] [] (218, (sR_ (zr_ σ 217) 214 2 (some 217))) := rfl
set_option maxRecDepth 100000 in
theorem sg_X9_214_3 (m : Nat) (σ : St_) : evN_ PN_X9_init (m + 4) 28 [some (.ref 214)] [] (218, σ) = evN_ PN_X9_init m 36 [some (.ref 214)] [] (219, (sR_ (zr_ σ 218) 214 3 (some 218))) := rfl
set_option maxRecDepth 100000 in
theorem sg_X9_214_4 (m : Nat) (σ : St_) : evN_ PN_X9_init (m + 6) 36 [some (.ref 214)] [] (219, σ) = evN_ PN_X9_init m 46 [some (.ref 214)] [] (219, (sI_ (sI_ σ 214 4 0) 214 5 0)) := rfl
set_option maxRecDepth 100000 in
theorem sg_X9_214_z (m : Nat) (σ : St_) : evN_ PN_X9_init (m + 1) 46 [some (.ref 214)] [] (219, σ) = some (219, σ) := rfl
set_option maxRecDepth 100000 in
theorem ev_X9_214 (σ : St_) : hn_X9_init [.ref 214] (215, σ) = some (219, sx_X9_214 σ) := hnF_eq (P := PN_X9_init) (nL := 1) (fuel := 150) rfl rfl ((sg_X9_214_0 144 _).trans ((sg_X9_214_1 140 _).trans ((sg_X9_214_2 136 _).trans ((sg_X9_214_3 132 _).trans ((sg_X9_214_4 126 _).trans ((sg_X9_214_z 125 _)))))))
def sx_X12 (σ : St_) : St_ := (sR_ (zr_ (sI_ (sR_ (zr_ (sR_ (zr_ (sR_ (zr_ (sR_ (zr_ (sR_ (zr_ (sI_ (sR_ (zr_ (sR_ (zr_ (sR_ (zr_ (sR_ (zr_ (sR_ (zr_ (sR_ (zr_ (sR_ (zr_ (sR_ (zr_ (sR_ (zr_ (sR_ (zr_ (sR_ (zr_ (sR_ (zr_ (sR_ (zr_ (sR_ (zr_ (sR_ (zr_ (sR_ (zr_ (sR_ (zr_ (sR_ (zr_ (sR_ (zr_ (sR_ (zr_ σ 220) 219 1 (some 220)) 221) 219 14 (some 221)) 222) 219 15 (some 222)) 223) 219 16 (some 223)) 224) 219 17 (some 224)) 225) 219 18 (some 225)) 226) 219 19 (some 226)) 227) 219 20 (some 227)) 228) 219 23 (some 228)) 229) 219 25 (some 229)) 230) 219 26 (some 230)) 231) 219 27 (some 231)) 232) 219 28 (some 232)) 233) 219 32 (some 233)) 234) 219 34 (some 234)) 235) 219 35 (some 235)) 236) 219 36 (some 236)) 237) 219 41 (some 237)) 238) 219 42 (some 238)) 239) 219 46 (some 239)) 219 47 (-1)) 240) 219 48 (some 240)) 241) 219 49 (some 241)) 242) 219 50 (some 242)) 243) 219 51 (some 243)) 244) 219 55 (some 244)) 219 56 (-1)) 245) 219 58 (some 245))
set_option maxRecDepth 100000 in
theorem sg_X12_0 (m : Nat) (σ : St_) : evN_ PN_X12_init (m + 6) 0 [some (.ref 219)] [] (220, σ) = evN_ PN_X12_init m 13 [some (.ref 219)] [] (221, (sR_ (zr_ σ 220) 219 1 (some 220))) := rfl
set_option maxRecDepth 100000 in
theorem sg_X12_1 (m : Nat) (σ : St_) : evN_ PN_X12_init (m + 4) 13 [some (.ref 219)] [] (221, σ) = evN_ PN_X12_init m 22 [some (.ref 219)] [] (222, (sR_ (zr_ σ 221) 219 14 (some 221))) := rfl
set_option maxRecDepth 100000 in
theorem sg_X12_2 (m : Nat) (σ : St_) : evN_ PN_X12_init (m + 4) 22 [some (.ref 219)] [] (222, σ) = evN_ PN_X12_init m 31 [some (.ref 219)] [] (223, (sR_ (zr_ σ 222) 219 15 (some 222))) := rfl
set_option maxRecDepth 100000 in
theorem sg_X12_3 (m : Nat) (σ : St_) : evN_ PN_X12_init (m + 4) 31 [some (.ref 219)] [] (223, σ) = evN_ PN_X12_init m 40 [some (.ref 219)] [] (224, (sR_ (zr_ σ 223) 219 16 (some 223))) := rfl
set_option maxRecDepth 100000 in
theorem sg_X12_4 (m : Nat) (σ : St_) : evN_ PN_X12_init (m + 4) 40 [some (.ref 219)] [] (224, σ) = evN_ PN_X12_init m 48 [some (.ref 219)] [] (225, (sR_ (zr_ σ 224) 219 17 (some 224))) := rfl
set_option maxRecDepth 100000 in
theorem sg_X12_5 (m : Nat) (σ : St_) : evN_ PN_X12_init (m + 4) 48 [some (.ref 219)] [] (225, σ) = evN_ PN_X12_init m 56 [some (.ref 219)] [] (226, (sR_ (zr_ σ 225) 219 18 (some 225))) := rfl
set_option maxRecDepth 100000 in
theorem sg_X12_6 (m : Nat) (σ : St_) : evN_ PN_X12_init (m + 4) 56 [some (.ref 219)] [] (226, σ) = evN_ PN_X12_init m 64 [some (.ref 219)] [] (227, (sR_ (zr_ σ 226) 219 19 (some 226))) := rfl
set_option maxRecDepth 100000 in
theorem sg_X12_7 (m : Nat) (σ : St_) : evN_ PN_X12_init (m + 4) 64 [some (.ref 219)] [] (227, σ) = evN_ PN_X12_init m 71 [some (.ref 219)] [] (228, (sR_ (zr_ σ 227) 219 20 (some 227))) := rfl
set_option maxRecDepth 100000 in
theorem sg_X12_8 (m : Nat) (σ : St_) : evN_ PN_X12_init (m + 4) 71 [some (.ref 219)] [] (228, σ) = evN_ PN_X12_init m 80 [some (.ref 219)] [] (229, (sR_ (zr_ σ 228) 219 23 (some 228))) := rfl
set_option maxRecDepth 100000 in
theorem sg_X12_9 (m : Nat) (σ : St_) : evN_ PN_X12_init (m + 4) 80 [some (.ref 219)] [] (229, σ) = evN_ PN_X12_init m 89 [some (.ref 219)] [] (230, (sR_ (zr_ σ 229) 219 25 (some 229))) := rfl
set_option maxRecDepth 100000 in
theorem sg_X12_10 (m : Nat) (σ : St_) : evN_ PN_X12_init (m + 4) 89 [some (.ref 219)] [] (230, σ) = evN_ PN_X12_init m 97 [some (.ref 219)] [] (231, (sR_ (zr_ σ 230) 219 26 (some 230))) := rfl
set_option maxRecDepth 100000 in
theorem sg_X12_11 (m : Nat) (σ : St_) : evN_ PN_X12_init (m + 4) 97 [some (.ref 219)] [] (231, σ) = evN_ PN_X12_init m 105 [some (.ref 219)] [] (232, (sR_ (zr_ σ 231) 219 27 (some 231))) := rfl
set_option maxRecDepth 100000 in
theorem sg_X12_12 (m : Nat) (σ : St_) : evN_ PN_X12_init (m + 4) 105 [some (.ref 219)] [] (232, σ) = evN_ PN_X12_init m 113 [some (.ref 219)] [] (233, (sR_ (zr_ σ 232) 219 28 (some 232))) := rfl
set_option maxRecDepth 100000 in
theorem sg_X12_13 (m : Nat) (σ : St_) : evN_ PN_X12_init (m + 4) 113 [some (.ref 219)] [] (233, σ) = evN_ PN_X12_init m 121 [some (.ref 219)] [] (234, (sR_ (zr_ σ 233) 219 32 (some 233))) := rfl
set_option maxRecDepth 100000 in
theorem sg_X12_14 (m : Nat) (σ : St_) : evN_ PN_X12_init (m + 4) 121 [some (.ref 219)] [] (234, σ) = evN_ PN_X12_init m 129 [some (.ref 219)] [] (235, (sR_ (zr_ σ 234) 219 34 (some 234))) := rfl
set_option maxRecDepth 100000 in
theorem sg_X12_15 (m : Nat) (σ : St_) : evN_ PN_X12_init (m + 4) 129 [some (.ref 219)] [] (235, σ) = evN_ PN_X12_init m 137 [some (.ref 219)] [] (236, (sR_ (zr_ σ 235) 219 35 (some 235))) := rfl
set_option maxRecDepth 100000 in
theorem sg_X12_16 (m : Nat) (σ : St_) : evN_ PN_X12_init (m + 4) 137 [some (.ref 219)] [] (236, σ) = evN_ PN_X12_init m 145 [some (.ref 219)] [] (237, (sR_ (zr_ σ 236) 219 36 (some 236))) := rfl
set_option maxRecDepth 100000 in
theorem sg_X12_17 (m : Nat) (σ : St_) : evN_ PN_X12_init (m + 4) 145 [some (.ref 219)] [] (237, σ) = evN_ PN_X12_init m 153 [some (.ref 219)] [] (238, (sR_ (zr_ σ 237) 219 41 (some 237))) := rfl
set_option maxRecDepth 100000 in
theorem sg_X12_18 (m : Nat) (σ : St_) : evN_ PN_X12_init (m + 4) 153 [some (.ref 219)] [] (238, σ) = evN_ PN_X12_init m 161 [some (.ref 219)] [] (239, (sR_ (zr_ σ 238) 219 42 (some 238))) := rfl
set_option maxRecDepth 100000 in
theorem sg_X12_19 (m : Nat) (σ : St_) : evN_ PN_X12_init (m + 4) 161 [some (.ref 219)] [] (239, σ) = evN_ PN_X12_init m 169 [some (.ref 219)] [] (240, (sR_ (zr_ σ 239) 219 46 (some 239))) := rfl
set_option maxRecDepth 100000 in
theorem sg_X12_20 (m : Nat) (σ : St_) : evN_ PN_X12_init (m + 7) 169 [some (.ref 219)] [] (240, σ) = evN_ PN_X12_init m 182 [some (.ref 219)] [] (241, (sR_ (zr_ (sI_ σ 219 47 (-1)) 240) 219 48 (some 240))) := rfl
set_option maxRecDepth 100000 in
theorem sg_X12_21 (m : Nat) (σ : St_) : evN_ PN_X12_init (m + 4) 182 [some (.ref 219)] [] (241, σ) = evN_ PN_X12_init m 190 [some (.ref 219)] [] (242, (sR_ (zr_ σ 241) 219 49 (some 241))) := rfl
set_option maxRecDepth 100000 in
theorem sg_X12_22 (m : Nat) (σ : St_) : evN_ PN_X12_init (m + 4) 190 [some (.ref 219)] [] (242, σ) = evN_ PN_X12_init m 198 [some (.ref 219)] [] (243, (sR_ (zr_ σ 242) 219 50 (some 242))) := rfl
set_option maxRecDepth 100000 in
theorem sg_X12_23 (m : Nat) (σ : St_) : evN_ PN_X12_init (m + 4) 198 [some (.ref 219)] [] (243, σ) = evN_ PN_X12_init m 206 [some (.ref 219)] [] (244, (sR_ (zr_ σ 243) 219 51 (some 243))) := rfl
set_option maxRecDepth 100000 in
theorem sg_X12_24 (m : Nat) (σ : St_) : evN_ PN_X12_init (m + 4) 206 [some (.ref 219)] [] (244, σ) = evN_ PN_X12_init m 214 [some (.ref 219)] [] (245, (sR_ (zr_ σ 244) 219 55 (some 244))) := rfl
set_option maxRecDepth 100000 in
theorem sg_X12_25 (m : Nat) (σ : St_) : evN_ PN_X12_init (m + 7) 214 [some (.ref 219)] [] (245, σ) = evN_ PN_X12_init m 228 [some (.ref 219)] [] (246, (sR_ (zr_ (sI_ σ 219 56 (-1)) 245) 219 58 (some 245))) := rfl
set_option maxRecDepth 100000 in
theorem sg_X12_z (m : Nat) (σ : St_) : evN_ PN_X12_init (m + 1) 228 [some (.ref 219)] [] (246, σ) = some (246, σ) := rfl
set_option maxRecDepth 100000 in
theorem ev_X12 (σ : St_) : hn_X12_init [.ref 219] (220, σ) = some (246, sx_X12 σ) := hnF_eq (P := PN_X12_init) (nL := 1) (fuel := 200) rfl rfl ((sg_X12_0 194 _).trans ((sg_X12_1 190 _).trans ((sg_X12_2 186 _).trans ((sg_X12_3 182 _).trans ((sg_X12_4 178 _).trans ((sg_X12_5 174 _).trans ((sg_X12_6 170 _).trans ((sg_X12_7 166 _).trans ((sg_X12_8 162 _).trans ((sg_X12_9 158 _).trans ((sg_X12_10 154 _).trans ((sg_X12_11 150 _).trans ((sg_X12_12 146 _).trans ((sg_X12_13 142 _).trans ((sg_X12_14 138 _).trans ((sg_X12_15 134 _).trans ((sg_X12_16 130 _).trans ((sg_X12_17 126 _).trans ((sg_X12_18 122 _).trans ((sg_X12_19 118 _).trans ((sg_X12_20 111 _).trans ((sg_X12_21 107 _).trans ((sg_X12_22 103 _).trans ((sg_X12_23 99 _).trans ((sg_X12_24 95 _).trans ((sg_X12_25 88 _).trans ((sg_X12_z 87 _))))))))))))))))))))))))))))

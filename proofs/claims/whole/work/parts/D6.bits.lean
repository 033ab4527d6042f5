/-! how many bits: sixteen of them -/
def t8_ (x : Nat) : Nat := fb_ct (fun i => x.testBit i) 8
theorem bcA_0 : ∀ (a : Fin 16) (b : Fin 256), bc_ (nI (256 * (0 + a.val) + b.val)) = nI (t8_ (0 + a.val) + t8_ b.val) := by decide +kernel
theorem bcA_1 : ∀ (a : Fin 16) (b : Fin 256), bc_ (nI (256 * (16 + a.val) + b.val)) = nI (t8_ (16 + a.val) + t8_ b.val) := by decide +kernel
theorem bcA_2 : ∀ (a : Fin 16) (b : Fin 256), bc_ (nI (256 * (32 + a.val) + b.val)) = nI (t8_ (32 + a.val) + t8_ b.val) := by decide +kernel
theorem bcA_3 : ∀ (a : Fin 16) (b : Fin 256), bc_ (nI (256 * (48 + a.val) + b.val)) = nI (t8_ (48 + a.val) + t8_ b.val) := by decide +kernel
theorem bcA_4 : ∀ (a : Fin 16) (b : Fin 256), bc_ (nI (256 * (64 + a.val) + b.val)) = nI (t8_ (64 + a.val) + t8_ b.val) := by decide +kernel
theorem bcA_5 : ∀ (a : Fin 16) (b : Fin 256), bc_ (nI (256 * (80 + a.val) + b.val)) = nI (t8_ (80 + a.val) + t8_ b.val) := by decide +kernel
theorem bcA_6 : ∀ (a : Fin 16) (b : Fin 256), bc_ (nI (256 * (96 + a.val) + b.val)) = nI (t8_ (96 + a.val) + t8_ b.val) := by decide +kernel
theorem bcA_7 : ∀ (a : Fin 16) (b : Fin 256), bc_ (nI (256 * (112 + a.val) + b.val)) = nI (t8_ (112 + a.val) + t8_ b.val) := by decide +kernel
theorem bcA_8 : ∀ (a : Fin 16) (b : Fin 256), bc_ (nI (256 * (128 + a.val) + b.val)) = nI (t8_ (128 + a.val) + t8_ b.val) := by decide +kernel
theorem bcA_9 : ∀ (a : Fin 16) (b : Fin 256), bc_ (nI (256 * (144 + a.val) + b.val)) = nI (t8_ (144 + a.val) + t8_ b.val) := by decide +kernel
theorem bcA_10 : ∀ (a : Fin 16) (b : Fin 256), bc_ (nI (256 * (160 + a.val) + b.val)) = nI (t8_ (160 + a.val) + t8_ b.val) := by decide +kernel
theorem bcA_11 : ∀ (a : Fin 16) (b : Fin 256), bc_ (nI (256 * (176 + a.val) + b.val)) = nI (t8_ (176 + a.val) + t8_ b.val) := by decide +kernel
theorem bcA_12 : ∀ (a : Fin 16) (b : Fin 256), bc_ (nI (256 * (192 + a.val) + b.val)) = nI (t8_ (192 + a.val) + t8_ b.val) := by decide +kernel
theorem bcA_13 : ∀ (a : Fin 16) (b : Fin 256), bc_ (nI (256 * (208 + a.val) + b.val)) = nI (t8_ (208 + a.val) + t8_ b.val) := by decide +kernel
theorem bcA_14 : ∀ (a : Fin 16) (b : Fin 256), bc_ (nI (256 * (224 + a.val) + b.val)) = nI (t8_ (224 + a.val) + t8_ b.val) := by decide +kernel
theorem bcA_15 : ∀ (a : Fin 16) (b : Fin 256), bc_ (nI (256 * (240 + a.val) + b.val)) = nI (t8_ (240 + a.val) + t8_ b.val) := by decide +kernel

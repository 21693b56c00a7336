noncomputable section
set_option maxRecDepth 100000 in
theorem op_sw : op 0 40 = some (.tableswitch 3887 0 54 #[236, 316, 384, 452, 508, 576, 644, 736, 816, 884, 964, 1020, 1088, 1163, 1259, 1379, 1392, 1488, 1556, 1612, 1692, 1760, 1835, 1903, 1983, 2039, 2119, 2175, 2255, 2311, 2367, 2411, 2467, 2523, 2579, 2659, 2727, 2740, 2796, 2852, 2908, 2952, 3008, 3064, 3151, 3219, 3287, 3355, 3423, 3479, 3547, 3615, 3683, 3739, 3807], 236) := by decide +kernel
def C0_23 (x4 : Int) (d5 : Option AV) (d6 : Option AV) (k : Nat) (n : Nat) (σ : Sg) (o : Rs) : Prop := Gd 0 23 [(some (.inr (.inr (some SCR)))), (some (.inr (.inr (some 0)))), (some (.inr (.inr (some 682)))), (some (.inr (.inr (some 726)))), (some (.inl x4)), d5, d6] [] σ k n o
def C0_276 (x4 : Int) (d5 : Option AV) (d6 : Option AV) (k : Nat) (n : Nat) (σ : Sg) (o : Rs) : Prop := Gd 0 276 [(some (.inr (.inr (some SCR)))), (some (.inr (.inr (some 0)))), (some (.inr (.inr (some 682)))), (some (.inr (.inr (some 726)))), (some (.inl x4)), d5, d6] [] σ k n o
def C0_356 (x4 : Int) (d5 : Option AV) (d6 : Option AV) (k : Nat) (n : Nat) (σ : Sg) (o : Rs) : Prop := Gd 0 356 [(some (.inr (.inr (some SCR)))), (some (.inr (.inr (some 0)))), (some (.inr (.inr (some 682)))), (some (.inr (.inr (some 726)))), (some (.inl x4)), d5, d6] [] σ k n o
def C0_424 (x4 : Int) (d5 : Option AV) (d6 : Option AV) (k : Nat) (n : Nat) (σ : Sg) (o : Rs) : Prop := Gd 0 424 [(some (.inr (.inr (some SCR)))), (some (.inr (.inr (some 0)))), (some (.inr (.inr (some 682)))), (some (.inr (.inr (some 726)))), (some (.inl x4)), d5, d6] [] σ k n o
def C0_492 (x4 : Int) (d5 : Option AV) (d6 : Option AV) (k : Nat) (n : Nat) (σ : Sg) (o : Rs) : Prop := Gd 0 492 [(some (.inr (.inr (some SCR)))), (some (.inr (.inr (some 0)))), (some (.inr (.inr (some 682)))), (some (.inr (.inr (some 726)))), (some (.inl x4)), d5, d6] [] σ k n o
def C0_548 (x4 : Int) (d5 : Option AV) (d6 : Option AV) (k : Nat) (n : Nat) (σ : Sg) (o : Rs) : Prop := Gd 0 548 [(some (.inr (.inr (some SCR)))), (some (.inr (.inr (some 0)))), (some (.inr (.inr (some 682)))), (some (.inr (.inr (some 726)))), (some (.inl x4)), d5, d6] [] σ k n o
def C0_616 (x4 : Int) (d5 : Option AV) (d6 : Option AV) (k : Nat) (n : Nat) (σ : Sg) (o : Rs) : Prop := Gd 0 616 [(some (.inr (.inr (some SCR)))), (some (.inr (.inr (some 0)))), (some (.inr (.inr (some 682)))), (some (.inr (.inr (some 726)))), (some (.inl x4)), d5, d6] [] σ k n o
def C0_684 (x4 : Int) (d5 : Option AV) (d6 : Option AV) (k : Nat) (n : Nat) (σ : Sg) (o : Rs) : Prop := Gd 0 684 [(some (.inr (.inr (some SCR)))), (some (.inr (.inr (some 0)))), (some (.inr (.inr (some 682)))), (some (.inr (.inr (some 726)))), (some (.inl x4)), d5, d6] [] σ k n o
def C0_776 (x4 : Int) (d5 : Option AV) (d6 : Option AV) (k : Nat) (n : Nat) (σ : Sg) (o : Rs) : Prop := Gd 0 776 [(some (.inr (.inr (some SCR)))), (some (.inr (.inr (some 0)))), (some (.inr (.inr (some 682)))), (some (.inr (.inr (some 726)))), (some (.inl x4)), d5, d6] [] σ k n o
def C0_856 (x4 : Int) (d5 : Option AV) (d6 : Option AV) (k : Nat) (n : Nat) (σ : Sg) (o : Rs) : Prop := Gd 0 856 [(some (.inr (.inr (some SCR)))), (some (.inr (.inr (some 0)))), (some (.inr (.inr (some 682)))), (some (.inr (.inr (some 726)))), (some (.inl x4)), d5, d6] [] σ k n o
def C0_924 (x4 : Int) (d5 : Option AV) (d6 : Option AV) (k : Nat) (n : Nat) (σ : Sg) (o : Rs) : Prop := Gd 0 924 [(some (.inr (.inr (some SCR)))), (some (.inr (.inr (some 0)))), (some (.inr (.inr (some 682)))), (some (.inr (.inr (some 726)))), (some (.inl x4)), d5, d6] [] σ k n o
def C0_1004 (x4 : Int) (d5 : Option AV) (d6 : Option AV) (k : Nat) (n : Nat) (σ : Sg) (o : Rs) : Prop := Gd 0 1004 [(some (.inr (.inr (some SCR)))), (some (.inr (.inr (some 0)))), (some (.inr (.inr (some 682)))), (some (.inr (.inr (some 726)))), (some (.inl x4)), d5, d6] [] σ k n o
def C0_1060 (x4 : Int) (d5 : Option AV) (d6 : Option AV) (k : Nat) (n : Nat) (σ : Sg) (o : Rs) : Prop := Gd 0 1060 [(some (.inr (.inr (some SCR)))), (some (.inr (.inr (some 0)))), (some (.inr (.inr (some 682)))), (some (.inr (.inr (some 726)))), (some (.inl x4)), d5, d6] [] σ k n o
def C0_1128 (x4 : Int) (d5 : Option AV) (d6 : Option AV) (k : Nat) (n : Nat) (σ : Sg) (o : Rs) : Prop := Gd 0 1128 [(some (.inr (.inr (some SCR)))), (some (.inr (.inr (some 0)))), (some (.inr (.inr (some 682)))), (some (.inr (.inr (some 726)))), (some (.inl x4)), d5, d6] [] σ k n o
def C0_1203 (x4 : Int) (d5 : Option AV) (d6 : Option AV) (k : Nat) (n : Nat) (σ : Sg) (o : Rs) : Prop := Gd 0 1203 [(some (.inr (.inr (some SCR)))), (some (.inr (.inr (some 0)))), (some (.inr (.inr (some 682)))), (some (.inr (.inr (some 726)))), (some (.inl x4)), d5, d6] [] σ k n o
def C0_1299 (x4 : Int) (d5 : Option AV) (d6 : Option AV) (k : Nat) (n : Nat) (σ : Sg) (o : Rs) : Prop := Gd 0 1299 [(some (.inr (.inr (some SCR)))), (some (.inr (.inr (some 0)))), (some (.inr (.inr (some 682)))), (some (.inr (.inr (some 726)))), (some (.inl x4)), d5, d6] [] σ k n o
def C0_1419 (x4 : Int) (d5 : Option AV) (d6 : Option AV) (k : Nat) (n : Nat) (σ : Sg) (o : Rs) : Prop := Gd 0 1419 [(some (.inr (.inr (some SCR)))), (some (.inr (.inr (some 0)))), (some (.inr (.inr (some 682)))), (some (.inr (.inr (some 726)))), (some (.inl x4)), d5, d6] [] σ k n o
def C0_1432 (x4 : Int) (d5 : Option AV) (d6 : Option AV) (k : Nat) (n : Nat) (σ : Sg) (o : Rs) : Prop := Gd 0 1432 [(some (.inr (.inr (some SCR)))), (some (.inr (.inr (some 0)))), (some (.inr (.inr (some 682)))), (some (.inr (.inr (some 726)))), (some (.inl x4)), d5, d6] [] σ k n o
def C0_1528 (x4 : Int) (d5 : Option AV) (d6 : Option AV) (k : Nat) (n : Nat) (σ : Sg) (o : Rs) : Prop := Gd 0 1528 [(some (.inr (.inr (some SCR)))), (some (.inr (.inr (some 0)))), (some (.inr (.inr (some 682)))), (some (.inr (.inr (some 726)))), (some (.inl x4)), d5, d6] [] σ k n o
def C0_1596 (x4 : Int) (d5 : Option AV) (d6 : Option AV) (k : Nat) (n : Nat) (σ : Sg) (o : Rs) : Prop := Gd 0 1596 [(some (.inr (.inr (some SCR)))), (some (.inr (.inr (some 0)))), (some (.inr (.inr (some 682)))), (some (.inr (.inr (some 726)))), (some (.inl x4)), d5, d6] [] σ k n o
def C0_1652 (x4 : Int) (d5 : Option AV) (d6 : Option AV) (k : Nat) (n : Nat) (σ : Sg) (o : Rs) : Prop := Gd 0 1652 [(some (.inr (.inr (some SCR)))), (some (.inr (.inr (some 0)))), (some (.inr (.inr (some 682)))), (some (.inr (.inr (some 726)))), (some (.inl x4)), d5, d6] [] σ k n o
def C0_1732 (x4 : Int) (d5 : Option AV) (d6 : Option AV) (k : Nat) (n : Nat) (σ : Sg) (o : Rs) : Prop := Gd 0 1732 [(some (.inr (.inr (some SCR)))), (some (.inr (.inr (some 0)))), (some (.inr (.inr (some 682)))), (some (.inr (.inr (some 726)))), (some (.inl x4)), d5, d6] [] σ k n o
def C0_1800 (x4 : Int) (d5 : Option AV) (d6 : Option AV) (k : Nat) (n : Nat) (σ : Sg) (o : Rs) : Prop := Gd 0 1800 [(some (.inr (.inr (some SCR)))), (some (.inr (.inr (some 0)))), (some (.inr (.inr (some 682)))), (some (.inr (.inr (some 726)))), (some (.inl x4)), d5, d6] [] σ k n o
def C0_1875 (x4 : Int) (d5 : Option AV) (d6 : Option AV) (k : Nat) (n : Nat) (σ : Sg) (o : Rs) : Prop := Gd 0 1875 [(some (.inr (.inr (some SCR)))), (some (.inr (.inr (some 0)))), (some (.inr (.inr (some 682)))), (some (.inr (.inr (some 726)))), (some (.inl x4)), d5, d6] [] σ k n o
def C0_1943 (x4 : Int) (d5 : Option AV) (d6 : Option AV) (k : Nat) (n : Nat) (σ : Sg) (o : Rs) : Prop := Gd 0 1943 [(some (.inr (.inr (some SCR)))), (some (.inr (.inr (some 0)))), (some (.inr (.inr (some 682)))), (some (.inr (.inr (some 726)))), (some (.inl x4)), d5, d6] [] σ k n o
def C0_2023 (x4 : Int) (d5 : Option AV) (d6 : Option AV) (k : Nat) (n : Nat) (σ : Sg) (o : Rs) : Prop := Gd 0 2023 [(some (.inr (.inr (some SCR)))), (some (.inr (.inr (some 0)))), (some (.inr (.inr (some 682)))), (some (.inr (.inr (some 726)))), (some (.inl x4)), d5, d6] [] σ k n o
def C0_2079 (x4 : Int) (d5 : Option AV) (d6 : Option AV) (k : Nat) (n : Nat) (σ : Sg) (o : Rs) : Prop := Gd 0 2079 [(some (.inr (.inr (some SCR)))), (some (.inr (.inr (some 0)))), (some (.inr (.inr (some 682)))), (some (.inr (.inr (some 726)))), (some (.inl x4)), d5, d6] [] σ k n o
def C0_2159 (x4 : Int) (d5 : Option AV) (d6 : Option AV) (k : Nat) (n : Nat) (σ : Sg) (o : Rs) : Prop := Gd 0 2159 [(some (.inr (.inr (some SCR)))), (some (.inr (.inr (some 0)))), (some (.inr (.inr (some 682)))), (some (.inr (.inr (some 726)))), (some (.inl x4)), d5, d6] [] σ k n o
def C0_2215 (x4 : Int) (d5 : Option AV) (d6 : Option AV) (k : Nat) (n : Nat) (σ : Sg) (o : Rs) : Prop := Gd 0 2215 [(some (.inr (.inr (some SCR)))), (some (.inr (.inr (some 0)))), (some (.inr (.inr (some 682)))), (some (.inr (.inr (some 726)))), (some (.inl x4)), d5, d6] [] σ k n o
def C0_2295 (x4 : Int) (d5 : Option AV) (d6 : Option AV) (k : Nat) (n : Nat) (σ : Sg) (o : Rs) : Prop := Gd 0 2295 [(some (.inr (.inr (some SCR)))), (some (.inr (.inr (some 0)))), (some (.inr (.inr (some 682)))), (some (.inr (.inr (some 726)))), (some (.inl x4)), d5, d6] [] σ k n o
def C0_2351 (x4 : Int) (d5 : Option AV) (d6 : Option AV) (k : Nat) (n : Nat) (σ : Sg) (o : Rs) : Prop := Gd 0 2351 [(some (.inr (.inr (some SCR)))), (some (.inr (.inr (some 0)))), (some (.inr (.inr (some 682)))), (some (.inr (.inr (some 726)))), (some (.inl x4)), d5, d6] [] σ k n o
def C0_2407 (x4 : Int) (d5 : Option AV) (d6 : Option AV) (k : Nat) (n : Nat) (σ : Sg) (o : Rs) : Prop := Gd 0 2407 [(some (.inr (.inr (some SCR)))), (some (.inr (.inr (some 0)))), (some (.inr (.inr (some 682)))), (some (.inr (.inr (some 726)))), (some (.inl x4)), d5, d6] [] σ k n o
def C0_2451 (x4 : Int) (d5 : Option AV) (d6 : Option AV) (k : Nat) (n : Nat) (σ : Sg) (o : Rs) : Prop := Gd 0 2451 [(some (.inr (.inr (some SCR)))), (some (.inr (.inr (some 0)))), (some (.inr (.inr (some 682)))), (some (.inr (.inr (some 726)))), (some (.inl x4)), d5, d6] [] σ k n o
def C0_2507 (x4 : Int) (d5 : Option AV) (d6 : Option AV) (k : Nat) (n : Nat) (σ : Sg) (o : Rs) : Prop := Gd 0 2507 [(some (.inr (.inr (some SCR)))), (some (.inr (.inr (some 0)))), (some (.inr (.inr (some 682)))), (some (.inr (.inr (some 726)))), (some (.inl x4)), d5, d6] [] σ k n o
def C0_2563 (x4 : Int) (d5 : Option AV) (d6 : Option AV) (k : Nat) (n : Nat) (σ : Sg) (o : Rs) : Prop := Gd 0 2563 [(some (.inr (.inr (some SCR)))), (some (.inr (.inr (some 0)))), (some (.inr (.inr (some 682)))), (some (.inr (.inr (some 726)))), (some (.inl x4)), d5, d6] [] σ k n o
def C0_2619 (x4 : Int) (d5 : Option AV) (d6 : Option AV) (k : Nat) (n : Nat) (σ : Sg) (o : Rs) : Prop := Gd 0 2619 [(some (.inr (.inr (some SCR)))), (some (.inr (.inr (some 0)))), (some (.inr (.inr (some 682)))), (some (.inr (.inr (some 726)))), (some (.inl x4)), d5, d6] [] σ k n o
def C0_2699 (x4 : Int) (d5 : Option AV) (d6 : Option AV) (k : Nat) (n : Nat) (σ : Sg) (o : Rs) : Prop := Gd 0 2699 [(some (.inr (.inr (some SCR)))), (some (.inr (.inr (some 0)))), (some (.inr (.inr (some 682)))), (some (.inr (.inr (some 726)))), (some (.inl x4)), d5, d6] [] σ k n o
def C0_2767 (x4 : Int) (d5 : Option AV) (d6 : Option AV) (k : Nat) (n : Nat) (σ : Sg) (o : Rs) : Prop := Gd 0 2767 [(some (.inr (.inr (some SCR)))), (some (.inr (.inr (some 0)))), (some (.inr (.inr (some 682)))), (some (.inr (.inr (some 726)))), (some (.inl x4)), d5, d6] [] σ k n o
def C0_2780 (x4 : Int) (d5 : Option AV) (d6 : Option AV) (k : Nat) (n : Nat) (σ : Sg) (o : Rs) : Prop := Gd 0 2780 [(some (.inr (.inr (some SCR)))), (some (.inr (.inr (some 0)))), (some (.inr (.inr (some 682)))), (some (.inr (.inr (some 726)))), (some (.inl x4)), d5, d6] [] σ k n o
def C0_2836 (x4 : Int) (d5 : Option AV) (d6 : Option AV) (k : Nat) (n : Nat) (σ : Sg) (o : Rs) : Prop := Gd 0 2836 [(some (.inr (.inr (some SCR)))), (some (.inr (.inr (some 0)))), (some (.inr (.inr (some 682)))), (some (.inr (.inr (some 726)))), (some (.inl x4)), d5, d6] [] σ k n o
def C0_2892 (x4 : Int) (d5 : Option AV) (d6 : Option AV) (k : Nat) (n : Nat) (σ : Sg) (o : Rs) : Prop := Gd 0 2892 [(some (.inr (.inr (some SCR)))), (some (.inr (.inr (some 0)))), (some (.inr (.inr (some 682)))), (some (.inr (.inr (some 726)))), (some (.inl x4)), d5, d6] [] σ k n o
def C0_2948 (x4 : Int) (d5 : Option AV) (d6 : Option AV) (k : Nat) (n : Nat) (σ : Sg) (o : Rs) : Prop := Gd 0 2948 [(some (.inr (.inr (some SCR)))), (some (.inr (.inr (some 0)))), (some (.inr (.inr (some 682)))), (some (.inr (.inr (some 726)))), (some (.inl x4)), d5, d6] [] σ k n o
def C0_2992 (x4 : Int) (d5 : Option AV) (d6 : Option AV) (k : Nat) (n : Nat) (σ : Sg) (o : Rs) : Prop := Gd 0 2992 [(some (.inr (.inr (some SCR)))), (some (.inr (.inr (some 0)))), (some (.inr (.inr (some 682)))), (some (.inr (.inr (some 726)))), (some (.inl x4)), d5, d6] [] σ k n o
def C0_3048 (x4 : Int) (d5 : Option AV) (d6 : Option AV) (k : Nat) (n : Nat) (σ : Sg) (o : Rs) : Prop := Gd 0 3048 [(some (.inr (.inr (some SCR)))), (some (.inr (.inr (some 0)))), (some (.inr (.inr (some 682)))), (some (.inr (.inr (some 726)))), (some (.inl x4)), d5, d6] [] σ k n o
def C0_3104 (x4 : Int) (d5 : Option AV) (d6 : Option AV) (k : Nat) (n : Nat) (σ : Sg) (o : Rs) : Prop := Gd 0 3104 [(some (.inr (.inr (some SCR)))), (some (.inr (.inr (some 0)))), (some (.inr (.inr (some 682)))), (some (.inr (.inr (some 726)))), (some (.inl x4)), d5, d6] [] σ k n o
def C0_3191 (x4 : Int) (d5 : Option AV) (d6 : Option AV) (k : Nat) (n : Nat) (σ : Sg) (o : Rs) : Prop := Gd 0 3191 [(some (.inr (.inr (some SCR)))), (some (.inr (.inr (some 0)))), (some (.inr (.inr (some 682)))), (some (.inr (.inr (some 726)))), (some (.inl x4)), d5, d6] [] σ k n o
def C0_3259 (x4 : Int) (d5 : Option AV) (d6 : Option AV) (k : Nat) (n : Nat) (σ : Sg) (o : Rs) : Prop := Gd 0 3259 [(some (.inr (.inr (some SCR)))), (some (.inr (.inr (some 0)))), (some (.inr (.inr (some 682)))), (some (.inr (.inr (some 726)))), (some (.inl x4)), d5, d6] [] σ k n o
def C0_3327 (x4 : Int) (d5 : Option AV) (d6 : Option AV) (k : Nat) (n : Nat) (σ : Sg) (o : Rs) : Prop := Gd 0 3327 [(some (.inr (.inr (some SCR)))), (some (.inr (.inr (some 0)))), (some (.inr (.inr (some 682)))), (some (.inr (.inr (some 726)))), (some (.inl x4)), d5, d6] [] σ k n o
def C0_3395 (x4 : Int) (d5 : Option AV) (d6 : Option AV) (k : Nat) (n : Nat) (σ : Sg) (o : Rs) : Prop := Gd 0 3395 [(some (.inr (.inr (some SCR)))), (some (.inr (.inr (some 0)))), (some (.inr (.inr (some 682)))), (some (.inr (.inr (some 726)))), (some (.inl x4)), d5, d6] [] σ k n o
def C0_3463 (x4 : Int) (d5 : Option AV) (d6 : Option AV) (k : Nat) (n : Nat) (σ : Sg) (o : Rs) : Prop := Gd 0 3463 [(some (.inr (.inr (some SCR)))), (some (.inr (.inr (some 0)))), (some (.inr (.inr (some 682)))), (some (.inr (.inr (some 726)))), (some (.inl x4)), d5, d6] [] σ k n o
def C0_3519 (x4 : Int) (d5 : Option AV) (d6 : Option AV) (k : Nat) (n : Nat) (σ : Sg) (o : Rs) : Prop := Gd 0 3519 [(some (.inr (.inr (some SCR)))), (some (.inr (.inr (some 0)))), (some (.inr (.inr (some 682)))), (some (.inr (.inr (some 726)))), (some (.inl x4)), d5, d6] [] σ k n o
def C0_3587 (x4 : Int) (d5 : Option AV) (d6 : Option AV) (k : Nat) (n : Nat) (σ : Sg) (o : Rs) : Prop := Gd 0 3587 [(some (.inr (.inr (some SCR)))), (some (.inr (.inr (some 0)))), (some (.inr (.inr (some 682)))), (some (.inr (.inr (some 726)))), (some (.inl x4)), d5, d6] [] σ k n o
def C0_3655 (x4 : Int) (d5 : Option AV) (d6 : Option AV) (k : Nat) (n : Nat) (σ : Sg) (o : Rs) : Prop := Gd 0 3655 [(some (.inr (.inr (some SCR)))), (some (.inr (.inr (some 0)))), (some (.inr (.inr (some 682)))), (some (.inr (.inr (some 726)))), (some (.inl x4)), d5, d6] [] σ k n o
def C0_3723 (x4 : Int) (d5 : Option AV) (d6 : Option AV) (k : Nat) (n : Nat) (σ : Sg) (o : Rs) : Prop := Gd 0 3723 [(some (.inr (.inr (some SCR)))), (some (.inr (.inr (some 0)))), (some (.inr (.inr (some 682)))), (some (.inr (.inr (some 726)))), (some (.inl x4)), d5, d6] [] σ k n o
def C0_3779 (x4 : Int) (d5 : Option AV) (d6 : Option AV) (k : Nat) (n : Nat) (σ : Sg) (o : Rs) : Prop := Gd 0 3779 [(some (.inr (.inr (some SCR)))), (some (.inr (.inr (some 0)))), (some (.inr (.inr (some 682)))), (some (.inr (.inr (some 726)))), (some (.inl x4)), d5, d6] [] σ k n o
def C0_3847 (x4 : Int) (d5 : Option AV) (d6 : Option AV) (k : Nat) (n : Nat) (σ : Sg) (o : Rs) : Prop := Gd 0 3847 [(some (.inr (.inr (some SCR)))), (some (.inr (.inr (some 0)))), (some (.inr (.inr (some 682)))), (some (.inr (.inr (some 726)))), (some (.inl x4)), d5, d6] [] σ k n o
def C0_3927 (x4 : Int) (d5 : Option AV) (d6 : Option AV) (k : Nat) (n : Nat) (σ : Sg) (o : Rs) : Prop := Gd 0 3927 [(some (.inr (.inr (some SCR)))), (some (.inr (.inr (some 0)))), (some (.inr (.inr (some 682)))), (some (.inr (.inr (some 726)))), (some (.inl x4)), d5, d6] [] σ k n o
def C0_353 (x4 : Int) (d5 : Option AV) (d6 : Option AV) (k : Nat) (n : Nat) (σ : Sg) (o : Rs) : Prop := Gd 0 353 [(some (.inr (.inr (some SCR)))), (some (.inr (.inr (some 0)))), (some (.inr (.inr (some 682)))), (some (.inr (.inr (some 726)))), (some (.inl x4)), d5, d6] [] σ k n o
def C0_421 (x4 : Int) (d5 : Option AV) (d6 : Option AV) (k : Nat) (n : Nat) (σ : Sg) (o : Rs) : Prop := Gd 0 421 [(some (.inr (.inr (some SCR)))), (some (.inr (.inr (some 0)))), (some (.inr (.inr (some 682)))), (some (.inr (.inr (some 726)))), (some (.inl x4)), d5, d6] [] σ k n o
def C0_489 (x4 : Int) (d5 : Option AV) (d6 : Option AV) (k : Nat) (n : Nat) (σ : Sg) (o : Rs) : Prop := Gd 0 489 [(some (.inr (.inr (some SCR)))), (some (.inr (.inr (some 0)))), (some (.inr (.inr (some 682)))), (some (.inr (.inr (some 726)))), (some (.inl x4)), d5, d6] [] σ k n o
def C0_545 (x4 : Int) (d5 : Option AV) (d6 : Option AV) (k : Nat) (n : Nat) (σ : Sg) (o : Rs) : Prop := Gd 0 545 [(some (.inr (.inr (some SCR)))), (some (.inr (.inr (some 0)))), (some (.inr (.inr (some 682)))), (some (.inr (.inr (some 726)))), (some (.inl x4)), d5, d6] [] σ k n o
def C0_613 (x4 : Int) (d5 : Option AV) (d6 : Option AV) (k : Nat) (n : Nat) (σ : Sg) (o : Rs) : Prop := Gd 0 613 [(some (.inr (.inr (some SCR)))), (some (.inr (.inr (some 0)))), (some (.inr (.inr (some 682)))), (some (.inr (.inr (some 726)))), (some (.inl x4)), d5, d6] [] σ k n o
def C0_681 (x4 : Int) (d5 : Option AV) (d6 : Option AV) (k : Nat) (n : Nat) (σ : Sg) (o : Rs) : Prop := Gd 0 681 [(some (.inr (.inr (some SCR)))), (some (.inr (.inr (some 0)))), (some (.inr (.inr (some 682)))), (some (.inr (.inr (some 726)))), (some (.inl x4)), d5, d6] [] σ k n o
def C0_773 (x4 : Int) (d5 : Option AV) (d6 : Option AV) (k : Nat) (n : Nat) (σ : Sg) (o : Rs) : Prop := Gd 0 773 [(some (.inr (.inr (some SCR)))), (some (.inr (.inr (some 0)))), (some (.inr (.inr (some 682)))), (some (.inr (.inr (some 726)))), (some (.inl x4)), d5, d6] [] σ k n o
def C0_853 (x4 : Int) (d5 : Option AV) (d6 : Option AV) (k : Nat) (n : Nat) (σ : Sg) (o : Rs) : Prop := Gd 0 853 [(some (.inr (.inr (some SCR)))), (some (.inr (.inr (some 0)))), (some (.inr (.inr (some 682)))), (some (.inr (.inr (some 726)))), (some (.inl x4)), d5, d6] [] σ k n o
def C0_921 (x4 : Int) (d5 : Option AV) (d6 : Option AV) (k : Nat) (n : Nat) (σ : Sg) (o : Rs) : Prop := Gd 0 921 [(some (.inr (.inr (some SCR)))), (some (.inr (.inr (some 0)))), (some (.inr (.inr (some 682)))), (some (.inr (.inr (some 726)))), (some (.inl x4)), d5, d6] [] σ k n o
def C0_1001 (x4 : Int) (d5 : Option AV) (d6 : Option AV) (k : Nat) (n : Nat) (σ : Sg) (o : Rs) : Prop := Gd 0 1001 [(some (.inr (.inr (some SCR)))), (some (.inr (.inr (some 0)))), (some (.inr (.inr (some 682)))), (some (.inr (.inr (some 726)))), (some (.inl x4)), d5, d6] [] σ k n o
def C0_1057 (x4 : Int) (d5 : Option AV) (d6 : Option AV) (k : Nat) (n : Nat) (σ : Sg) (o : Rs) : Prop := Gd 0 1057 [(some (.inr (.inr (some SCR)))), (some (.inr (.inr (some 0)))), (some (.inr (.inr (some 682)))), (some (.inr (.inr (some 726)))), (some (.inl x4)), d5, d6] [] σ k n o
def C0_1125 (x4 : Int) (d5 : Option AV) (d6 : Option AV) (k : Nat) (n : Nat) (σ : Sg) (o : Rs) : Prop := Gd 0 1125 [(some (.inr (.inr (some SCR)))), (some (.inr (.inr (some 0)))), (some (.inr (.inr (some 682)))), (some (.inr (.inr (some 726)))), (some (.inl x4)), d5, d6] [] σ k n o
def C0_1194 (x4 : Int) (d5 : Option AV) (d6 : Option AV) (y0 : Int) (y1 : Int) (k : Nat) (n : Nat) (σ : Sg) (o : Rs) : Prop := Gd 0 1194 [(some (.inr (.inr (some SCR)))), (some (.inr (.inr (some 0)))), (some (.inr (.inr (some 682)))), (some (.inr (.inr (some 726)))), (some (.inl x4)), d5, d6] [(.inr (.inl y1)), (.inr (.inl y0))] σ k n o
def C0_1200 (x4 : Int) (d5 : Option AV) (d6 : Option AV) (k : Nat) (n : Nat) (σ : Sg) (o : Rs) : Prop := Gd 0 1200 [(some (.inr (.inr (some SCR)))), (some (.inr (.inr (some 0)))), (some (.inr (.inr (some 682)))), (some (.inr (.inr (some 726)))), (some (.inl x4)), d5, d6] [] σ k n o
def C0_1230 (x4 : Int) (d5 : Option AV) (d6 : Option AV) (y1 : Int) (y2 : Int) (y3 : Int) (k : Nat) (n : Nat) (σ : Sg) (o : Rs) : Prop := Gd 0 1230 [(some (.inr (.inr (some SCR)))), (some (.inr (.inr (some 0)))), (some (.inr (.inr (some 682)))), (some (.inr (.inr (some 726)))), (some (.inl x4)), d5, d6] [(.inl y3), (.inl y2), (.inl y1), (.inr (.inr (some 0)))] σ k n o
def C0_1338 (x4 : Int) (d5 : Option AV) (d6 : Option AV) (y1 : Int) (y2 : Int) (y3 : Int) (y4 : Int) (y5 : Int) (k : Nat) (n : Nat) (σ : Sg) (o : Rs) : Prop := Gd 0 1338 [(some (.inr (.inr (some SCR)))), (some (.inr (.inr (some 0)))), (some (.inr (.inr (some 682)))), (some (.inr (.inr (some 726)))), (some (.inl x4)), d5, d6] [(.inl y5), (.inl y4), (.inl y3), (.inl y2), (.inl y1), (.inr (.inr (some 0)))] σ k n o
def C0_1453 (x4 : Int) (d5 : Option AV) (d6 : Option AV) (y1 : Int) (y2 : Int) (k : Nat) (n : Nat) (σ : Sg) (o : Rs) : Prop := Gd 0 1453 [(some (.inr (.inr (some SCR)))), (some (.inr (.inr (some 0)))), (some (.inr (.inr (some 682)))), (some (.inr (.inr (some 726)))), (some (.inl x4)), d5, d6] [(.inl y2), (.inl y1), (.inr (.inr (some 0)))] σ k n o
def C0_1593 (x4 : Int) (d5 : Option AV) (d6 : Option AV) (k : Nat) (n : Nat) (σ : Sg) (o : Rs) : Prop := Gd 0 1593 [(some (.inr (.inr (some SCR)))), (some (.inr (.inr (some 0)))), (some (.inr (.inr (some 682)))), (some (.inr (.inr (some 726)))), (some (.inl x4)), d5, d6] [] σ k n o
def C0_1649 (x4 : Int) (d5 : Option AV) (d6 : Option AV) (k : Nat) (n : Nat) (σ : Sg) (o : Rs) : Prop := Gd 0 1649 [(some (.inr (.inr (some SCR)))), (some (.inr (.inr (some 0)))), (some (.inr (.inr (some 682)))), (some (.inr (.inr (some 726)))), (some (.inl x4)), d5, d6] [] σ k n o
def C0_1729 (x4 : Int) (d5 : Option AV) (d6 : Option AV) (k : Nat) (n : Nat) (σ : Sg) (o : Rs) : Prop := Gd 0 1729 [(some (.inr (.inr (some SCR)))), (some (.inr (.inr (some 0)))), (some (.inr (.inr (some 682)))), (some (.inr (.inr (some 726)))), (some (.inl x4)), d5, d6] [] σ k n o
def C0_1797 (x4 : Int) (d5 : Option AV) (d6 : Option AV) (k : Nat) (n : Nat) (σ : Sg) (o : Rs) : Prop := Gd 0 1797 [(some (.inr (.inr (some SCR)))), (some (.inr (.inr (some 0)))), (some (.inr (.inr (some 682)))), (some (.inr (.inr (some 726)))), (some (.inl x4)), d5, d6] [] σ k n o
def C0_1866 (x4 : Int) (d5 : Option AV) (d6 : Option AV) (y0 : Int) (y1 : Int) (k : Nat) (n : Nat) (σ : Sg) (o : Rs) : Prop := Gd 0 1866 [(some (.inr (.inr (some SCR)))), (some (.inr (.inr (some 0)))), (some (.inr (.inr (some 682)))), (some (.inr (.inr (some 726)))), (some (.inl x4)), d5, d6] [(.inr (.inl y1)), (.inr (.inl y0))] σ k n o
def C0_1872 (x4 : Int) (d5 : Option AV) (d6 : Option AV) (k : Nat) (n : Nat) (σ : Sg) (o : Rs) : Prop := Gd 0 1872 [(some (.inr (.inr (some SCR)))), (some (.inr (.inr (some 0)))), (some (.inr (.inr (some 682)))), (some (.inr (.inr (some 726)))), (some (.inl x4)), d5, d6] [] σ k n o
def C0_1940 (x4 : Int) (d5 : Option AV) (d6 : Option AV) (k : Nat) (n : Nat) (σ : Sg) (o : Rs) : Prop := Gd 0 1940 [(some (.inr (.inr (some SCR)))), (some (.inr (.inr (some 0)))), (some (.inr (.inr (some 682)))), (some (.inr (.inr (some 726)))), (some (.inl x4)), d5, d6] [] σ k n o
def C0_2020 (x4 : Int) (d5 : Option AV) (d6 : Option AV) (k : Nat) (n : Nat) (σ : Sg) (o : Rs) : Prop := Gd 0 2020 [(some (.inr (.inr (some SCR)))), (some (.inr (.inr (some 0)))), (some (.inr (.inr (some 682)))), (some (.inr (.inr (some 726)))), (some (.inl x4)), d5, d6] [] σ k n o
def C0_2076 (x4 : Int) (d5 : Option AV) (d6 : Option AV) (k : Nat) (n : Nat) (σ : Sg) (o : Rs) : Prop := Gd 0 2076 [(some (.inr (.inr (some SCR)))), (some (.inr (.inr (some 0)))), (some (.inr (.inr (some 682)))), (some (.inr (.inr (some 726)))), (some (.inl x4)), d5, d6] [] σ k n o
def C0_2156 (x4 : Int) (d5 : Option AV) (d6 : Option AV) (k : Nat) (n : Nat) (σ : Sg) (o : Rs) : Prop := Gd 0 2156 [(some (.inr (.inr (some SCR)))), (some (.inr (.inr (some 0)))), (some (.inr (.inr (some 682)))), (some (.inr (.inr (some 726)))), (some (.inl x4)), d5, d6] [] σ k n o
def C0_2212 (x4 : Int) (d5 : Option AV) (d6 : Option AV) (k : Nat) (n : Nat) (σ : Sg) (o : Rs) : Prop := Gd 0 2212 [(some (.inr (.inr (some SCR)))), (some (.inr (.inr (some 0)))), (some (.inr (.inr (some 682)))), (some (.inr (.inr (some 726)))), (some (.inl x4)), d5, d6] [] σ k n o
def C0_2292 (x4 : Int) (d5 : Option AV) (d6 : Option AV) (k : Nat) (n : Nat) (σ : Sg) (o : Rs) : Prop := Gd 0 2292 [(some (.inr (.inr (some SCR)))), (some (.inr (.inr (some 0)))), (some (.inr (.inr (some 682)))), (some (.inr (.inr (some 726)))), (some (.inl x4)), d5, d6] [] σ k n o
def C0_2348 (x4 : Int) (d5 : Option AV) (d6 : Option AV) (k : Nat) (n : Nat) (σ : Sg) (o : Rs) : Prop := Gd 0 2348 [(some (.inr (.inr (some SCR)))), (some (.inr (.inr (some 0)))), (some (.inr (.inr (some 682)))), (some (.inr (.inr (some 726)))), (some (.inl x4)), d5, d6] [] σ k n o
def C0_2404 (x4 : Int) (d5 : Option AV) (d6 : Option AV) (k : Nat) (n : Nat) (σ : Sg) (o : Rs) : Prop := Gd 0 2404 [(some (.inr (.inr (some SCR)))), (some (.inr (.inr (some 0)))), (some (.inr (.inr (some 682)))), (some (.inr (.inr (some 726)))), (some (.inl x4)), d5, d6] [] σ k n o
def C0_2448 (x4 : Int) (d5 : Option AV) (d6 : Option AV) (k : Nat) (n : Nat) (σ : Sg) (o : Rs) : Prop := Gd 0 2448 [(some (.inr (.inr (some SCR)))), (some (.inr (.inr (some 0)))), (some (.inr (.inr (some 682)))), (some (.inr (.inr (some 726)))), (some (.inl x4)), d5, d6] [] σ k n o
def C0_2504 (x4 : Int) (d5 : Option AV) (d6 : Option AV) (k : Nat) (n : Nat) (σ : Sg) (o : Rs) : Prop := Gd 0 2504 [(some (.inr (.inr (some SCR)))), (some (.inr (.inr (some 0)))), (some (.inr (.inr (some 682)))), (some (.inr (.inr (some 726)))), (some (.inl x4)), d5, d6] [] σ k n o
def C0_2560 (x4 : Int) (d5 : Option AV) (d6 : Option AV) (k : Nat) (n : Nat) (σ : Sg) (o : Rs) : Prop := Gd 0 2560 [(some (.inr (.inr (some SCR)))), (some (.inr (.inr (some 0)))), (some (.inr (.inr (some 682)))), (some (.inr (.inr (some 726)))), (some (.inl x4)), d5, d6] [] σ k n o
def C0_2616 (x4 : Int) (d5 : Option AV) (d6 : Option AV) (k : Nat) (n : Nat) (σ : Sg) (o : Rs) : Prop := Gd 0 2616 [(some (.inr (.inr (some SCR)))), (some (.inr (.inr (some 0)))), (some (.inr (.inr (some 682)))), (some (.inr (.inr (some 726)))), (some (.inl x4)), d5, d6] [] σ k n o
def C0_2696 (x4 : Int) (d5 : Option AV) (d6 : Option AV) (k : Nat) (n : Nat) (σ : Sg) (o : Rs) : Prop := Gd 0 2696 [(some (.inr (.inr (some SCR)))), (some (.inr (.inr (some 0)))), (some (.inr (.inr (some 682)))), (some (.inr (.inr (some 726)))), (some (.inl x4)), d5, d6] [] σ k n o
def C0_2764 (x4 : Int) (d5 : Option AV) (d6 : Option AV) (k : Nat) (n : Nat) (σ : Sg) (o : Rs) : Prop := Gd 0 2764 [(some (.inr (.inr (some SCR)))), (some (.inr (.inr (some 0)))), (some (.inr (.inr (some 682)))), (some (.inr (.inr (some 726)))), (some (.inl x4)), d5, d6] [] σ k n o
def C0_2833 (x4 : Int) (d5 : Option AV) (d6 : Option AV) (k : Nat) (n : Nat) (σ : Sg) (o : Rs) : Prop := Gd 0 2833 [(some (.inr (.inr (some SCR)))), (some (.inr (.inr (some 0)))), (some (.inr (.inr (some 682)))), (some (.inr (.inr (some 726)))), (some (.inl x4)), d5, d6] [] σ k n o
def C0_2889 (x4 : Int) (d5 : Option AV) (d6 : Option AV) (k : Nat) (n : Nat) (σ : Sg) (o : Rs) : Prop := Gd 0 2889 [(some (.inr (.inr (some SCR)))), (some (.inr (.inr (some 0)))), (some (.inr (.inr (some 682)))), (some (.inr (.inr (some 726)))), (some (.inl x4)), d5, d6] [] σ k n o
def C0_2945 (x4 : Int) (d5 : Option AV) (d6 : Option AV) (k : Nat) (n : Nat) (σ : Sg) (o : Rs) : Prop := Gd 0 2945 [(some (.inr (.inr (some SCR)))), (some (.inr (.inr (some 0)))), (some (.inr (.inr (some 682)))), (some (.inr (.inr (some 726)))), (some (.inl x4)), d5, d6] [] σ k n o
def C0_2989 (x4 : Int) (d5 : Option AV) (d6 : Option AV) (k : Nat) (n : Nat) (σ : Sg) (o : Rs) : Prop := Gd 0 2989 [(some (.inr (.inr (some SCR)))), (some (.inr (.inr (some 0)))), (some (.inr (.inr (some 682)))), (some (.inr (.inr (some 726)))), (some (.inl x4)), d5, d6] [] σ k n o
def C0_3045 (x4 : Int) (d5 : Option AV) (d6 : Option AV) (k : Nat) (n : Nat) (σ : Sg) (o : Rs) : Prop := Gd 0 3045 [(some (.inr (.inr (some SCR)))), (some (.inr (.inr (some 0)))), (some (.inr (.inr (some 682)))), (some (.inr (.inr (some 726)))), (some (.inl x4)), d5, d6] [] σ k n o
def C0_3101 (x4 : Int) (d5 : Option AV) (d6 : Option AV) (k : Nat) (n : Nat) (σ : Sg) (o : Rs) : Prop := Gd 0 3101 [(some (.inr (.inr (some SCR)))), (some (.inr (.inr (some 0)))), (some (.inr (.inr (some 682)))), (some (.inr (.inr (some 726)))), (some (.inl x4)), d5, d6] [] σ k n o
def C0_3182 (x4 : Int) (d5 : Option AV) (d6 : Option AV) (y0 : Int) (y1 : Int) (k : Nat) (n : Nat) (σ : Sg) (o : Rs) : Prop := Gd 0 3182 [(some (.inr (.inr (some SCR)))), (some (.inr (.inr (some 0)))), (some (.inr (.inr (some 682)))), (some (.inr (.inr (some 726)))), (some (.inl x4)), d5, d6] [(.inr (.inl y1)), (.inr (.inl y0))] σ k n o
def C0_3188 (x4 : Int) (d5 : Option AV) (d6 : Option AV) (k : Nat) (n : Nat) (σ : Sg) (o : Rs) : Prop := Gd 0 3188 [(some (.inr (.inr (some SCR)))), (some (.inr (.inr (some 0)))), (some (.inr (.inr (some 682)))), (some (.inr (.inr (some 726)))), (some (.inl x4)), d5, d6] [] σ k n o
def C0_3256 (x4 : Int) (d5 : Option AV) (d6 : Option AV) (k : Nat) (n : Nat) (σ : Sg) (o : Rs) : Prop := Gd 0 3256 [(some (.inr (.inr (some SCR)))), (some (.inr (.inr (some 0)))), (some (.inr (.inr (some 682)))), (some (.inr (.inr (some 726)))), (some (.inl x4)), d5, d6] [] σ k n o
def C0_3324 (x4 : Int) (d5 : Option AV) (d6 : Option AV) (k : Nat) (n : Nat) (σ : Sg) (o : Rs) : Prop := Gd 0 3324 [(some (.inr (.inr (some SCR)))), (some (.inr (.inr (some 0)))), (some (.inr (.inr (some 682)))), (some (.inr (.inr (some 726)))), (some (.inl x4)), d5, d6] [] σ k n o
def C0_3392 (x4 : Int) (d5 : Option AV) (d6 : Option AV) (k : Nat) (n : Nat) (σ : Sg) (o : Rs) : Prop := Gd 0 3392 [(some (.inr (.inr (some SCR)))), (some (.inr (.inr (some 0)))), (some (.inr (.inr (some 682)))), (some (.inr (.inr (some 726)))), (some (.inl x4)), d5, d6] [] σ k n o
def C0_3460 (x4 : Int) (d5 : Option AV) (d6 : Option AV) (k : Nat) (n : Nat) (σ : Sg) (o : Rs) : Prop := Gd 0 3460 [(some (.inr (.inr (some SCR)))), (some (.inr (.inr (some 0)))), (some (.inr (.inr (some 682)))), (some (.inr (.inr (some 726)))), (some (.inl x4)), d5, d6] [] σ k n o
def C0_3516 (x4 : Int) (d5 : Option AV) (d6 : Option AV) (k : Nat) (n : Nat) (σ : Sg) (o : Rs) : Prop := Gd 0 3516 [(some (.inr (.inr (some SCR)))), (some (.inr (.inr (some 0)))), (some (.inr (.inr (some 682)))), (some (.inr (.inr (some 726)))), (some (.inl x4)), d5, d6] [] σ k n o
def C0_3584 (x4 : Int) (d5 : Option AV) (d6 : Option AV) (k : Nat) (n : Nat) (σ : Sg) (o : Rs) : Prop := Gd 0 3584 [(some (.inr (.inr (some SCR)))), (some (.inr (.inr (some 0)))), (some (.inr (.inr (some 682)))), (some (.inr (.inr (some 726)))), (some (.inl x4)), d5, d6] [] σ k n o
def C0_3652 (x4 : Int) (d5 : Option AV) (d6 : Option AV) (k : Nat) (n : Nat) (σ : Sg) (o : Rs) : Prop := Gd 0 3652 [(some (.inr (.inr (some SCR)))), (some (.inr (.inr (some 0)))), (some (.inr (.inr (some 682)))), (some (.inr (.inr (some 726)))), (some (.inl x4)), d5, d6] [] σ k n o
def C0_3720 (x4 : Int) (d5 : Option AV) (d6 : Option AV) (k : Nat) (n : Nat) (σ : Sg) (o : Rs) : Prop := Gd 0 3720 [(some (.inr (.inr (some SCR)))), (some (.inr (.inr (some 0)))), (some (.inr (.inr (some 682)))), (some (.inr (.inr (some 726)))), (some (.inl x4)), d5, d6] [] σ k n o
def C0_3776 (x4 : Int) (d5 : Option AV) (d6 : Option AV) (k : Nat) (n : Nat) (σ : Sg) (o : Rs) : Prop := Gd 0 3776 [(some (.inr (.inr (some SCR)))), (some (.inr (.inr (some 0)))), (some (.inr (.inr (some 682)))), (some (.inr (.inr (some 726)))), (some (.inl x4)), d5, d6] [] σ k n o
def C0_3844 (x4 : Int) (d5 : Option AV) (d6 : Option AV) (k : Nat) (n : Nat) (σ : Sg) (o : Rs) : Prop := Gd 0 3844 [(some (.inr (.inr (some SCR)))), (some (.inr (.inr (some 0)))), (some (.inr (.inr (some 682)))), (some (.inr (.inr (some 726)))), (some (.inl x4)), d5, d6] [] σ k n o
def C0_3924 (x4 : Int) (d5 : Option AV) (d6 : Option AV) (k : Nat) (n : Nat) (σ : Sg) (o : Rs) : Prop := Gd 0 3924 [(some (.inr (.inr (some SCR)))), (some (.inr (.inr (some 0)))), (some (.inr (.inr (some 682)))), (some (.inr (.inr (some 726)))), (some (.inl x4)), d5, d6] [] σ k n o
def C0_1263 (x4 : Int) (x5 : Int) (d6 : Option AV) (y1 : Int) (y2 : Int) (y3 : Int) (k : Nat) (n : Nat) (σ : Sg) (o : Rs) : Prop := Gd 0 1263 [(some (.inr (.inr (some SCR)))), (some (.inr (.inr (some 0)))), (some (.inr (.inr (some 682)))), (some (.inr (.inr (some 726)))), (some (.inl x4)), (some (.inl x5)), d6] [(.inl y3), (.inl y2), (.inl y1), (.inr (.inr (some 682)))] σ k n o
def C0_1383 (x4 : Int) (x5 : Int) (d6 : Option AV) (y1 : Int) (y2 : Int) (y3 : Int) (y4 : Int) (y5 : Int) (k : Nat) (n : Nat) (σ : Sg) (o : Rs) : Prop := Gd 0 1383 [(some (.inr (.inr (some SCR)))), (some (.inr (.inr (some 0)))), (some (.inr (.inr (some 682)))), (some (.inr (.inr (some 726)))), (some (.inl x4)), (some (.inl x5)), d6] [(.inl y5), (.inl y4), (.inl y3), (.inl y2), (.inl y1), (.inr (.inr (some 682)))] σ k n o
def C0_1486 (x4 : Int) (x5 : Int) (d6 : Option AV) (y1 : Int) (y2 : Int) (k : Nat) (n : Nat) (σ : Sg) (o : Rs) : Prop := Gd 0 1486 [(some (.inr (.inr (some SCR)))), (some (.inr (.inr (some 0)))), (some (.inr (.inr (some 682)))), (some (.inr (.inr (some 726)))), (some (.inl x4)), (some (.inl x5)), d6] [(.inl y2), (.inl y1), (.inr (.inr (some 682)))] σ k n o
def C0_1296 (x4 : Int) (d5 : Option AV) (d6 : Option AV) (k : Nat) (n : Nat) (σ : Sg) (o : Rs) : Prop := Gd 0 1296 [(some (.inr (.inr (some SCR)))), (some (.inr (.inr (some 0)))), (some (.inr (.inr (some 682)))), (some (.inr (.inr (some 726)))), (some (.inl x4)), d5, d6] [] σ k n o
def C0_1416 (x4 : Int) (d5 : Option AV) (d6 : Option AV) (k : Nat) (n : Nat) (σ : Sg) (o : Rs) : Prop := Gd 0 1416 [(some (.inr (.inr (some SCR)))), (some (.inr (.inr (some 0)))), (some (.inr (.inr (some 682)))), (some (.inr (.inr (some 726)))), (some (.inl x4)), d5, d6] [] σ k n o
def C0_1525 (x4 : Int) (d5 : Option AV) (d6 : Option AV) (k : Nat) (n : Nat) (σ : Sg) (o : Rs) : Prop := Gd 0 1525 [(some (.inr (.inr (some SCR)))), (some (.inr (.inr (some 0)))), (some (.inr (.inr (some 682)))), (some (.inr (.inr (some 726)))), (some (.inl x4)), d5, d6] [] σ k n o
theorem b0_23 {x4 : Int} {d5 : Option AV} {d6 : Option AV} {k : Nat} {n : Nat} {σ : Sg} {o : Rs} (h : (-2147483648 ≤ ((σ (SCR + 1) 0) - 6) ∧ ((σ (SCR + 1) 0) - 6) ≤ 2147483647) ∧ (if x4 ≤ ((σ (SCR + 1) 0) - 6) then (0 ≤ x4 ∧ x4 < σ (SCR + 1) 0) ∧ ((iAnd (σ SCR (x4).toNat) 63) = 0 → C0_276 x4 d5 d6 k n σ o) ∧ ((iAnd (σ SCR (x4).toNat) 63) = 1 → C0_356 x4 d5 d6 k n σ o) ∧ ((iAnd (σ SCR (x4).toNat) 63) = 2 → C0_424 x4 d5 d6 k n σ o) ∧ ((iAnd (σ SCR (x4).toNat) 63) = 3 → C0_492 x4 d5 d6 k n σ o) ∧ ((iAnd (σ SCR (x4).toNat) 63) = 4 → C0_548 x4 d5 d6 k n σ o) ∧ ((iAnd (σ SCR (x4).toNat) 63) = 5 → C0_616 x4 d5 d6 k n σ o) ∧ ((iAnd (σ SCR (x4).toNat) 63) = 6 → C0_684 x4 d5 d6 k n σ o) ∧ ((iAnd (σ SCR (x4).toNat) 63) = 7 → C0_776 x4 d5 d6 k n σ o) ∧ ((iAnd (σ SCR (x4).toNat) 63) = 8 → C0_856 x4 d5 d6 k n σ o) ∧ ((iAnd (σ SCR (x4).toNat) 63) = 9 → C0_924 x4 d5 d6 k n σ o) ∧ ((iAnd (σ SCR (x4).toNat) 63) = 10 → C0_1004 x4 d5 d6 k n σ o) ∧ ((iAnd (σ SCR (x4).toNat) 63) = 11 → C0_1060 x4 d5 d6 k n σ o) ∧ ((iAnd (σ SCR (x4).toNat) 63) = 12 → C0_1128 x4 d5 d6 k n σ o) ∧ ((iAnd (σ SCR (x4).toNat) 63) = 13 → C0_1203 x4 d5 d6 k n σ o) ∧ ((iAnd (σ SCR (x4).toNat) 63) = 14 → C0_1299 x4 d5 d6 k n σ o) ∧ ((iAnd (σ SCR (x4).toNat) 63) = 15 → C0_1419 x4 d5 d6 k n σ o) ∧ ((iAnd (σ SCR (x4).toNat) 63) = 16 → C0_1432 x4 d5 d6 k n σ o) ∧ ((iAnd (σ SCR (x4).toNat) 63) = 17 → C0_1528 x4 d5 d6 k n σ o) ∧ ((iAnd (σ SCR (x4).toNat) 63) = 18 → C0_1596 x4 d5 d6 k n σ o) ∧ ((iAnd (σ SCR (x4).toNat) 63) = 19 → C0_1652 x4 d5 d6 k n σ o) ∧ ((iAnd (σ SCR (x4).toNat) 63) = 20 → C0_1732 x4 d5 d6 k n σ o) ∧ ((iAnd (σ SCR (x4).toNat) 63) = 21 → C0_1800 x4 d5 d6 k n σ o) ∧ ((iAnd (σ SCR (x4).toNat) 63) = 22 → C0_1875 x4 d5 d6 k n σ o) ∧ ((iAnd (σ SCR (x4).toNat) 63) = 23 → C0_1943 x4 d5 d6 k n σ o) ∧ ((iAnd (σ SCR (x4).toNat) 63) = 24 → C0_2023 x4 d5 d6 k n σ o) ∧ ((iAnd (σ SCR (x4).toNat) 63) = 25 → C0_2079 x4 d5 d6 k n σ o) ∧ ((iAnd (σ SCR (x4).toNat) 63) = 26 → C0_2159 x4 d5 d6 k n σ o) ∧ ((iAnd (σ SCR (x4).toNat) 63) = 27 → C0_2215 x4 d5 d6 k n σ o) ∧ ((iAnd (σ SCR (x4).toNat) 63) = 28 → C0_2295 x4 d5 d6 k n σ o) ∧ ((iAnd (σ SCR (x4).toNat) 63) = 29 → C0_2351 x4 d5 d6 k n σ o) ∧ ((iAnd (σ SCR (x4).toNat) 63) = 30 → C0_2407 x4 d5 d6 k n σ o) ∧ ((iAnd (σ SCR (x4).toNat) 63) = 31 → C0_2451 x4 d5 d6 k n σ o) ∧ ((iAnd (σ SCR (x4).toNat) 63) = 32 → C0_2507 x4 d5 d6 k n σ o) ∧ ((iAnd (σ SCR (x4).toNat) 63) = 33 → C0_2563 x4 d5 d6 k n σ o) ∧ ((iAnd (σ SCR (x4).toNat) 63) = 34 → C0_2619 x4 d5 d6 k n σ o) ∧ ((iAnd (σ SCR (x4).toNat) 63) = 35 → C0_2699 x4 d5 d6 k n σ o) ∧ ((iAnd (σ SCR (x4).toNat) 63) = 36 → C0_2767 x4 d5 d6 k n σ o) ∧ ((iAnd (σ SCR (x4).toNat) 63) = 37 → C0_2780 x4 d5 d6 k n σ o) ∧ ((iAnd (σ SCR (x4).toNat) 63) = 38 → C0_2836 x4 d5 d6 k n σ o) ∧ ((iAnd (σ SCR (x4).toNat) 63) = 39 → C0_2892 x4 d5 d6 k n σ o) ∧ ((iAnd (σ SCR (x4).toNat) 63) = 40 → C0_2948 x4 d5 d6 k n σ o) ∧ ((iAnd (σ SCR (x4).toNat) 63) = 41 → C0_2992 x4 d5 d6 k n σ o) ∧ ((iAnd (σ SCR (x4).toNat) 63) = 42 → C0_3048 x4 d5 d6 k n σ o) ∧ ((iAnd (σ SCR (x4).toNat) 63) = 43 → C0_3104 x4 d5 d6 k n σ o) ∧ ((iAnd (σ SCR (x4).toNat) 63) = 44 → C0_3191 x4 d5 d6 k n σ o) ∧ ((iAnd (σ SCR (x4).toNat) 63) = 45 → C0_3259 x4 d5 d6 k n σ o) ∧ ((iAnd (σ SCR (x4).toNat) 63) = 46 → C0_3327 x4 d5 d6 k n σ o) ∧ ((iAnd (σ SCR (x4).toNat) 63) = 47 → C0_3395 x4 d5 d6 k n σ o) ∧ ((iAnd (σ SCR (x4).toNat) 63) = 48 → C0_3463 x4 d5 d6 k n σ o) ∧ ((iAnd (σ SCR (x4).toNat) 63) = 49 → C0_3519 x4 d5 d6 k n σ o) ∧ ((iAnd (σ SCR (x4).toNat) 63) = 50 → C0_3587 x4 d5 d6 k n σ o) ∧ ((iAnd (σ SCR (x4).toNat) 63) = 51 → C0_3655 x4 d5 d6 k n σ o) ∧ ((iAnd (σ SCR (x4).toNat) 63) = 52 → C0_3723 x4 d5 d6 k n σ o) ∧ ((iAnd (σ SCR (x4).toNat) 63) = 53 → C0_3779 x4 d5 d6 k n σ o) ∧ ((iAnd (σ SCR (x4).toNat) 63) = 54 → C0_3847 x4 d5 d6 k n σ o) ∧ ((iAnd (σ SCR (x4).toNat) 63) < 0 ∨ 54 < (iAnd (σ SCR (x4).toNat) 63) → C0_3927 x4 d5 d6 k n σ o) else o = (.inl (some (.inl 1)), σ))) : C0_23 x4 d5 d6 k n σ o := by
  show Gd 0 23 [(some (.inr (.inr (some SCR)))), (some (.inr (.inr (some 0)))), (some (.inr (.inr (some 682)))), (some (.inr (.inr (some 726)))), (some (.inl x4)), d5, d6] [] σ k n o
  refine g_iload 25 (show op 0 23 = some (.iload 4, 2) by decide +kernel) rfl rfl ?_
  refine g_aload_n 26 (show op 0 25 = some (.aload_n 0, 1) by decide +kernel) rfl rfl ?_
  refine g_slen 27 (show op 0 26 = some (.arraylength, 1) by decide +kernel) rfl ?_
  refine g_bipush 29 (show op 0 27 = some (.bipush 6, 2) by decide +kernel) rfl (by decide) ?_
  obtain ⟨g1, h⟩ := h
  refine g_isub 30 (show op 0 29 = some (.isub, 1) by decide +kernel) rfl g1 ?_
  by_cases hc3 : x4 ≤ ((σ (SCR + 1) 0) - 6)
  · rw [if_pos hc3] at h
    refine g_icmpF 33 3933 (show op 0 30 = some (.if_icmp .gt 3903, 3) by decide +kernel) rfl rfl (decide_eq_false (Int.not_lt.mpr hc3)) ?_
    refine g_aload_n 34 (show op 0 33 = some (.aload_n 0, 1) by decide +kernel) rfl rfl ?_
    refine g_iload 36 (show op 0 34 = some (.iload 4, 2) by decide +kernel) rfl rfl ?_
    obtain ⟨g2, h⟩ := h
    refine g_scr 37 (show op 0 36 = some (.iaload, 1) by decide +kernel) rfl g2 ?_
    refine g_bipush 39 (show op 0 37 = some (.bipush 63, 2) by decide +kernel) rfl (by decide) ?_
    refine g_iand 40 (show op 0 39 = some (.iand, 1) by decide +kernel) rfl ?_
    obtain ⟨c0, c1, c2, c3, c4, c5, c6, c7, c8, c9, c10, c11, c12, c13, c14, c15, c16, c17, c18, c19, c20, c21, c22, c23, c24, c25, c26, c27, c28, c29, c30, c31, c32, c33, c34, c35, c36, c37, c38, c39, c40, c41, c42, c43, c44, c45, c46, c47, c48, c49, c50, c51, c52, c53, c54, cD⟩ := h
    have hsw : (iAnd (σ SCR (x4).toNat) 63) = 0 ∨ (iAnd (σ SCR (x4).toNat) 63) = 1 ∨ (iAnd (σ SCR (x4).toNat) 63) = 2 ∨ (iAnd (σ SCR (x4).toNat) 63) = 3 ∨ (iAnd (σ SCR (x4).toNat) 63) = 4 ∨ (iAnd (σ SCR (x4).toNat) 63) = 5 ∨ (iAnd (σ SCR (x4).toNat) 63) = 6 ∨ (iAnd (σ SCR (x4).toNat) 63) = 7 ∨ (iAnd (σ SCR (x4).toNat) 63) = 8 ∨ (iAnd (σ SCR (x4).toNat) 63) = 9 ∨ (iAnd (σ SCR (x4).toNat) 63) = 10 ∨ (iAnd (σ SCR (x4).toNat) 63) = 11 ∨ (iAnd (σ SCR (x4).toNat) 63) = 12 ∨ (iAnd (σ SCR (x4).toNat) 63) = 13 ∨ (iAnd (σ SCR (x4).toNat) 63) = 14 ∨ (iAnd (σ SCR (x4).toNat) 63) = 15 ∨ (iAnd (σ SCR (x4).toNat) 63) = 16 ∨ (iAnd (σ SCR (x4).toNat) 63) = 17 ∨ (iAnd (σ SCR (x4).toNat) 63) = 18 ∨ (iAnd (σ SCR (x4).toNat) 63) = 19 ∨ (iAnd (σ SCR (x4).toNat) 63) = 20 ∨ (iAnd (σ SCR (x4).toNat) 63) = 21 ∨ (iAnd (σ SCR (x4).toNat) 63) = 22 ∨ (iAnd (σ SCR (x4).toNat) 63) = 23 ∨ (iAnd (σ SCR (x4).toNat) 63) = 24 ∨ (iAnd (σ SCR (x4).toNat) 63) = 25 ∨ (iAnd (σ SCR (x4).toNat) 63) = 26 ∨ (iAnd (σ SCR (x4).toNat) 63) = 27 ∨ (iAnd (σ SCR (x4).toNat) 63) = 28 ∨ (iAnd (σ SCR (x4).toNat) 63) = 29 ∨ (iAnd (σ SCR (x4).toNat) 63) = 30 ∨ (iAnd (σ SCR (x4).toNat) 63) = 31 ∨ (iAnd (σ SCR (x4).toNat) 63) = 32 ∨ (iAnd (σ SCR (x4).toNat) 63) = 33 ∨ (iAnd (σ SCR (x4).toNat) 63) = 34 ∨ (iAnd (σ SCR (x4).toNat) 63) = 35 ∨ (iAnd (σ SCR (x4).toNat) 63) = 36 ∨ (iAnd (σ SCR (x4).toNat) 63) = 37 ∨ (iAnd (σ SCR (x4).toNat) 63) = 38 ∨ (iAnd (σ SCR (x4).toNat) 63) = 39 ∨ (iAnd (σ SCR (x4).toNat) 63) = 40 ∨ (iAnd (σ SCR (x4).toNat) 63) = 41 ∨ (iAnd (σ SCR (x4).toNat) 63) = 42 ∨ (iAnd (σ SCR (x4).toNat) 63) = 43 ∨ (iAnd (σ SCR (x4).toNat) 63) = 44 ∨ (iAnd (σ SCR (x4).toNat) 63) = 45 ∨ (iAnd (σ SCR (x4).toNat) 63) = 46 ∨ (iAnd (σ SCR (x4).toNat) 63) = 47 ∨ (iAnd (σ SCR (x4).toNat) 63) = 48 ∨ (iAnd (σ SCR (x4).toNat) 63) = 49 ∨ (iAnd (σ SCR (x4).toNat) 63) = 50 ∨ (iAnd (σ SCR (x4).toNat) 63) = 51 ∨ (iAnd (σ SCR (x4).toNat) 63) = 52 ∨ (iAnd (σ SCR (x4).toNat) 63) = 53 ∨ (iAnd (σ SCR (x4).toNat) 63) = 54 ∨ ((iAnd (σ SCR (x4).toNat) 63) < 0 ∨ 54 < (iAnd (σ SCR (x4).toNat) 63)) := by omega
    rcases hsw with h8 | h8 | h8 | h8 | h8 | h8 | h8 | h8 | h8 | h8 | h8 | h8 | h8 | h8 | h8 | h8 | h8 | h8 | h8 | h8 | h8 | h8 | h8 | h8 | h8 | h8 | h8 | h8 | h8 | h8 | h8 | h8 | h8 | h8 | h8 | h8 | h8 | h8 | h8 | h8 | h8 | h8 | h8 | h8 | h8 | h8 | h8 | h8 | h8 | h8 | h8 | h8 | h8 | h8 | h8 | h8
    · exact g_swI 0 276 op_sw (by decide +kernel) h8 (c0 h8)
    · exact g_swI 1 356 op_sw (by decide +kernel) h8 (c1 h8)
    · exact g_swI 2 424 op_sw (by decide +kernel) h8 (c2 h8)
    · exact g_swI 3 492 op_sw (by decide +kernel) h8 (c3 h8)
    · exact g_swI 4 548 op_sw (by decide +kernel) h8 (c4 h8)
    · exact g_swI 5 616 op_sw (by decide +kernel) h8 (c5 h8)
    · exact g_swI 6 684 op_sw (by decide +kernel) h8 (c6 h8)
    · exact g_swI 7 776 op_sw (by decide +kernel) h8 (c7 h8)
    · exact g_swI 8 856 op_sw (by decide +kernel) h8 (c8 h8)
    · exact g_swI 9 924 op_sw (by decide +kernel) h8 (c9 h8)
    · exact g_swI 10 1004 op_sw (by decide +kernel) h8 (c10 h8)
    · exact g_swI 11 1060 op_sw (by decide +kernel) h8 (c11 h8)
    · exact g_swI 12 1128 op_sw (by decide +kernel) h8 (c12 h8)
    · exact g_swI 13 1203 op_sw (by decide +kernel) h8 (c13 h8)
    · exact g_swI 14 1299 op_sw (by decide +kernel) h8 (c14 h8)
    · exact g_swI 15 1419 op_sw (by decide +kernel) h8 (c15 h8)
    · exact g_swI 16 1432 op_sw (by decide +kernel) h8 (c16 h8)
    · exact g_swI 17 1528 op_sw (by decide +kernel) h8 (c17 h8)
    · exact g_swI 18 1596 op_sw (by decide +kernel) h8 (c18 h8)
    · exact g_swI 19 1652 op_sw (by decide +kernel) h8 (c19 h8)
    · exact g_swI 20 1732 op_sw (by decide +kernel) h8 (c20 h8)
    · exact g_swI 21 1800 op_sw (by decide +kernel) h8 (c21 h8)
    · exact g_swI 22 1875 op_sw (by decide +kernel) h8 (c22 h8)
    · exact g_swI 23 1943 op_sw (by decide +kernel) h8 (c23 h8)
    · exact g_swI 24 2023 op_sw (by decide +kernel) h8 (c24 h8)
    · exact g_swI 25 2079 op_sw (by decide +kernel) h8 (c25 h8)
    · exact g_swI 26 2159 op_sw (by decide +kernel) h8 (c26 h8)
    · exact g_swI 27 2215 op_sw (by decide +kernel) h8 (c27 h8)
    · exact g_swI 28 2295 op_sw (by decide +kernel) h8 (c28 h8)
    · exact g_swI 29 2351 op_sw (by decide +kernel) h8 (c29 h8)
    · exact g_swI 30 2407 op_sw (by decide +kernel) h8 (c30 h8)
    · exact g_swI 31 2451 op_sw (by decide +kernel) h8 (c31 h8)
    · exact g_swI 32 2507 op_sw (by decide +kernel) h8 (c32 h8)
    · exact g_swI 33 2563 op_sw (by decide +kernel) h8 (c33 h8)
    · exact g_swI 34 2619 op_sw (by decide +kernel) h8 (c34 h8)
    · exact g_swI 35 2699 op_sw (by decide +kernel) h8 (c35 h8)
    · exact g_swI 36 2767 op_sw (by decide +kernel) h8 (c36 h8)
    · exact g_swI 37 2780 op_sw (by decide +kernel) h8 (c37 h8)
    · exact g_swI 38 2836 op_sw (by decide +kernel) h8 (c38 h8)
    · exact g_swI 39 2892 op_sw (by decide +kernel) h8 (c39 h8)
    · exact g_swI 40 2948 op_sw (by decide +kernel) h8 (c40 h8)
    · exact g_swI 41 2992 op_sw (by decide +kernel) h8 (c41 h8)
    · exact g_swI 42 3048 op_sw (by decide +kernel) h8 (c42 h8)
    · exact g_swI 43 3104 op_sw (by decide +kernel) h8 (c43 h8)
    · exact g_swI 44 3191 op_sw (by decide +kernel) h8 (c44 h8)
    · exact g_swI 45 3259 op_sw (by decide +kernel) h8 (c45 h8)
    · exact g_swI 46 3327 op_sw (by decide +kernel) h8 (c46 h8)
    · exact g_swI 47 3395 op_sw (by decide +kernel) h8 (c47 h8)
    · exact g_swI 48 3463 op_sw (by decide +kernel) h8 (c48 h8)
    · exact g_swI 49 3519 op_sw (by decide +kernel) h8 (c49 h8)
    · exact g_swI 50 3587 op_sw (by decide +kernel) h8 (c50 h8)
    · exact g_swI 51 3655 op_sw (by decide +kernel) h8 (c51 h8)
    · exact g_swI 52 3723 op_sw (by decide +kernel) h8 (c52 h8)
    · exact g_swI 53 3779 op_sw (by decide +kernel) h8 (c53 h8)
    · exact g_swI 54 3847 op_sw (by decide +kernel) h8 (c54 h8)
    · exact g_swD 3927 op_sw rfl h8 (cD h8)
  · rw [if_neg hc3] at h
    refine g_icmpT 3933 (show op 0 30 = some (.if_icmp .gt 3903, 3) by decide +kernel) rfl (decide_eq_true (Int.not_le.mp hc3)) ?_
    refine g_iconst 3934 (show op 0 3933 = some (.iconst 1, 1) by decide +kernel) rfl rfl ?_
    exact (g_zret (show op 0 3934 = some (.ireturn, 1) by decide +kernel) (by decide +kernel) (by decide) h)
theorem b0_276 {x4 : Int} {d5 : Option AV} {d6 : Option AV} {k : Nat} {n : Nat} {σ : Sg} {o : Rs} (h : (-2147483648 ≤ (x4 + 1) ∧ (x4 + 1) ≤ 2147483647) ∧ (0 ≤ (x4 + 1) ∧ (x4 + 1) < σ (SCR + 1) 0) ∧ (-2147483648 ≤ (x4 + 2) ∧ (x4 + 2) ≤ 2147483647) ∧ (0 ≤ (x4 + 2) ∧ (x4 + 2) < σ (SCR + 1) 0) ∧ (-2147483648 ≤ (x4 + 3) ∧ (x4 + 3) ≤ 2147483647) ∧ (0 ≤ (x4 + 3) ∧ (x4 + 3) < σ (SCR + 1) 0) ∧ ((k + 4) ≤ 601024 ∧ (n + 24) ≤ 7293034) ∧ (∃ (v8 : Int) (s7 : Sg), Dd 390 [(.inr (.inr (some 0))), (.inl (σ SCR ((x4 + 1)).toNat)), (.inl (σ SCR ((x4 + 2)).toNat)), (.inl (σ SCR ((x4 + 3)).toNat)), (.inr (.inr (some 726)))] σ (.inl (some (.inl v8)), s7) ∧ (-2147483648 ≤ (x4 + 1) ∧ (x4 + 1) ≤ 2147483647) ∧ (0 ≤ (x4 + 1) ∧ (x4 + 1) < s7 (SCR + 1) 0) ∧ (-2147483648 ≤ (x4 + 2) ∧ (x4 + 2) ≤ 2147483647) ∧ (0 ≤ (x4 + 2) ∧ (x4 + 2) < s7 (SCR + 1) 0) ∧ (-2147483648 ≤ (x4 + 3) ∧ (x4 + 3) ≤ 2147483647) ∧ (0 ≤ (x4 + 3) ∧ (x4 + 3) < s7 (SCR + 1) 0) ∧ ((k + 4) ≤ 601024 ∧ (n + 24) ≤ 7293034) ∧ (∃ (v18 : Int) (s17 : Sg), Dd 256 [(.inr (.inr (some 682))), (.inl (s7 SCR ((x4 + 1)).toNat)), (.inl (s7 SCR ((x4 + 2)).toNat)), (.inl (s7 SCR ((x4 + 3)).toNat))] s7 (.inl (some (.inl v18)), s17) ∧ ((k + 4) ≤ 601024 ∧ (n + 24) ≤ 7293034) ∧ (∃ (v22 : Int) (s21 : Sg), Dd 244 [(.inr (.inr (some 682)))] s17 (.inl (some (.inl v22)), s21) ∧ (if v22 = v8 then (if v8 = 0 then (if (if v18 < (s21 726 (0 : Int).toNat) then 1 else if (s21 726 (0 : Int).toNat) = v18 then 0 else -1) = 0 then C0_353 x4 (some (.inl v8)) (some (.inl v18)) (k + 4) (n + 24) s21 o else o = (.inl (some (.inl 0)), s21)) else C0_353 x4 (some (.inl v8)) (some (.inl v18)) (k + 4) (n + 24) s21 o) else o = (.inl (some (.inl 0)), s21)))))) : C0_276 x4 d5 d6 k n σ o := by
  show Gd 0 276 [(some (.inr (.inr (some SCR)))), (some (.inr (.inr (some 0)))), (some (.inr (.inr (some 682)))), (some (.inr (.inr (some 726)))), (some (.inl x4)), d5, d6] [] σ k n o
  refine g_aload_n 277 (show op 0 276 = some (.aload_n 1, 1) by decide +kernel) rfl rfl ?_
  refine g_aload_n 278 (show op 0 277 = some (.aload_n 0, 1) by decide +kernel) rfl rfl ?_
  refine g_iload 280 (show op 0 278 = some (.iload 4, 2) by decide +kernel) rfl rfl ?_
  refine g_iconst 281 (show op 0 280 = some (.iconst 1, 1) by decide +kernel) rfl rfl ?_
  obtain ⟨g1, h⟩ := h
  refine g_iadd 282 (show op 0 281 = some (.iadd, 1) by decide +kernel) rfl g1 ?_
  obtain ⟨g2, h⟩ := h
  refine g_scr 283 (show op 0 282 = some (.iaload, 1) by decide +kernel) rfl g2 ?_
  refine g_aload_n 284 (show op 0 283 = some (.aload_n 0, 1) by decide +kernel) rfl rfl ?_
  refine g_iload 286 (show op 0 284 = some (.iload 4, 2) by decide +kernel) rfl rfl ?_
  refine g_iconst 287 (show op 0 286 = some (.iconst 2, 1) by decide +kernel) rfl rfl ?_
  obtain ⟨g3, h⟩ := h
  refine g_iadd 288 (show op 0 287 = some (.iadd, 1) by decide +kernel) rfl g3 ?_
  obtain ⟨g4, h⟩ := h
  refine g_scr 289 (show op 0 288 = some (.iaload, 1) by decide +kernel) rfl g4 ?_
  refine g_aload_n 290 (show op 0 289 = some (.aload_n 0, 1) by decide +kernel) rfl rfl ?_
  refine g_iload 292 (show op 0 290 = some (.iload 4, 2) by decide +kernel) rfl rfl ?_
  refine g_iconst 293 (show op 0 292 = some (.iconst 3, 1) by decide +kernel) rfl rfl ?_
  obtain ⟨g5, h⟩ := h
  refine g_iadd 294 (show op 0 293 = some (.iadd, 1) by decide +kernel) rfl g5 ?_
  obtain ⟨g6, h⟩ := h
  refine g_scr 295 (show op 0 294 = some (.iaload, 1) by decide +kernel) rfl g6 ?_
  refine g_aload_n 296 (show op 0 295 = some (.aload_n 3, 1) by decide +kernel) rfl rfl ?_
  obtain ⟨g10, h⟩ := h
  obtain ⟨v8, s7, hD9, h⟩ := h
  refine g_call 299 [(.inl v8)] (show op 0 296 = some (.invokestatic 188, 3) by decide +kernel) (call_stL (c := 4) (s := 24) (nj := 5) (j := 390) (t := []) (as := [(.inr (.inr (some 0))), (.inl (σ SCR ((x4 + 1)).toNat)), (.inl (σ SCR ((x4 + 2)).toNat)), (.inl (σ SCR ((x4 + 3)).toNat)), (.inr (.inr (some 726)))]) (by decide +kernel) rfl (by decide +kernel) g10 rfl rfl rfl rfl rfl) hD9 rfl ?_
  refine g_istore 301 [(some (.inr (.inr (some SCR)))), (some (.inr (.inr (some 0)))), (some (.inr (.inr (some 682)))), (some (.inr (.inr (some 726)))), (some (.inl x4)), (some (.inl v8)), d6] (show op 0 299 = some (.istore 5, 2) by decide +kernel) rfl rfl rfl ?_
  refine g_aload_n 302 (show op 0 301 = some (.aload_n 2, 1) by decide +kernel) rfl rfl ?_
  refine g_aload_n 303 (show op 0 302 = some (.aload_n 0, 1) by decide +kernel) rfl rfl ?_
  refine g_iload 305 (show op 0 303 = some (.iload 4, 2) by decide +kernel) rfl rfl ?_
  refine g_iconst 306 (show op 0 305 = some (.iconst 1, 1) by decide +kernel) rfl rfl ?_
  obtain ⟨g11, h⟩ := h
  refine g_iadd 307 (show op 0 306 = some (.iadd, 1) by decide +kernel) rfl g11 ?_
  obtain ⟨g12, h⟩ := h
  refine g_scr 308 (show op 0 307 = some (.iaload, 1) by decide +kernel) rfl g12 ?_
  refine g_aload_n 309 (show op 0 308 = some (.aload_n 0, 1) by decide +kernel) rfl rfl ?_
  refine g_iload 311 (show op 0 309 = some (.iload 4, 2) by decide +kernel) rfl rfl ?_
  refine g_iconst 312 (show op 0 311 = some (.iconst 2, 1) by decide +kernel) rfl rfl ?_
  obtain ⟨g13, h⟩ := h
  refine g_iadd 313 (show op 0 312 = some (.iadd, 1) by decide +kernel) rfl g13 ?_
  obtain ⟨g14, h⟩ := h
  refine g_scr 314 (show op 0 313 = some (.iaload, 1) by decide +kernel) rfl g14 ?_
  refine g_aload_n 315 (show op 0 314 = some (.aload_n 0, 1) by decide +kernel) rfl rfl ?_
  refine g_iload 317 (show op 0 315 = some (.iload 4, 2) by decide +kernel) rfl rfl ?_
  refine g_iconst 318 (show op 0 317 = some (.iconst 3, 1) by decide +kernel) rfl rfl ?_
  obtain ⟨g15, h⟩ := h
  refine g_iadd 319 (show op 0 318 = some (.iadd, 1) by decide +kernel) rfl g15 ?_
  obtain ⟨g16, h⟩ := h
  refine g_scr 320 (show op 0 319 = some (.iaload, 1) by decide +kernel) rfl g16 ?_
  obtain ⟨g20, h⟩ := h
  obtain ⟨v18, s17, hD19, h⟩ := h
  refine g_call 323 [(.inl v18)] (show op 0 320 = some (.invokevirtual 193, 3) by decide +kernel) (call_viL (c := 0) (s := 0) (nj := 4) (j := 256) (k9 := 21) (t := []) (as := [(.inr (.inr (some 682))), (.inl (s7 SCR ((x4 + 1)).toNat)), (.inl (s7 SCR ((x4 + 2)).toNat)), (.inl (s7 SCR ((x4 + 3)).toNat))]) (by decide +kernel) rfl (by decide +kernel) g20 rfl rfl rfl rfl rfl rfl (by decide +kernel) (by decide +kernel)) hD19 rfl ?_
  refine g_istore 325 [(some (.inr (.inr (some SCR)))), (some (.inr (.inr (some 0)))), (some (.inr (.inr (some 682)))), (some (.inr (.inr (some 726)))), (some (.inl x4)), (some (.inl v8)), (some (.inl v18))] (show op 0 323 = some (.istore 6, 2) by decide +kernel) rfl rfl rfl ?_
  refine g_aload_n 326 (show op 0 325 = some (.aload_n 2, 1) by decide +kernel) rfl rfl ?_
  obtain ⟨g24, h⟩ := h
  obtain ⟨v22, s21, hD23, h⟩ := h
  refine g_call 329 [(.inl v22)] (show op 0 326 = some (.invokevirtual 194, 3) by decide +kernel) (call_viL (c := 0) (s := 0) (nj := 1) (j := 244) (k9 := 21) (t := []) (as := [(.inr (.inr (some 682)))]) (by decide +kernel) rfl (by decide +kernel) g24 rfl rfl rfl rfl rfl rfl (by decide +kernel) (by decide +kernel)) hD23 rfl ?_
  refine g_iload 331 (show op 0 329 = some (.iload 5, 2) by decide +kernel) rfl rfl ?_
  by_cases hc25 : v22 = v8
  · rw [if_pos hc25] at h
    refine g_icmpT 336 (show op 0 331 = some (.if_icmp .eq 5, 3) by decide +kernel) rfl (decide_eq_true hc25) ?_
    refine g_iload 338 (show op 0 336 = some (.iload 5, 2) by decide +kernel) rfl rfl ?_
    by_cases hc26 : v8 = 0
    · rw [if_pos hc26] at h
      refine g_ifF 341 353 (show op 0 338 = some (.ifCond .ne 15, 3) by decide +kernel) rfl rfl (decide_eq_false (fun h9 => h9 hc26)) ?_
      refine g_aload_n 342 (show op 0 341 = some (.aload_n 3, 1) by decide +kernel) rfl rfl ?_
      refine g_iconst 343 (show op 0 342 = some (.iconst 0, 1) by decide +kernel) rfl rfl ?_
      refine g_laload 344 1 (show op 0 343 = some (.laload, 1) by decide +kernel) rfl (by decide +kernel) (by decide) ?_
      refine g_iload 346 (show op 0 344 = some (.iload 6, 2) by decide +kernel) rfl rfl ?_
      refine g_i2l 347 (show op 0 346 = some (.i2l, 1) by decide +kernel) rfl ?_
      refine g_lcmp 348 (show op 0 347 = some (.lcmp, 1) by decide +kernel) rfl ?_
      by_cases hc27 : (if v18 < (s21 726 (0 : Int).toNat) then 1 else if (s21 726 (0 : Int).toNat) = v18 then 0 else -1) = 0
      · rw [if_pos hc27] at h
        refine g_ifT 353 (show op 0 348 = some (.ifCond .eq 5, 3) by decide +kernel) rfl (decide_eq_true hc27) ?_
        exact h
      · rw [if_neg hc27] at h
        refine g_ifF 351 353 (show op 0 348 = some (.ifCond .eq 5, 3) by decide +kernel) rfl rfl (decide_eq_false hc27) ?_
        refine g_iconst 352 (show op 0 351 = some (.iconst 0, 1) by decide +kernel) rfl rfl ?_
        exact (g_zret (show op 0 352 = some (.ireturn, 1) by decide +kernel) (by decide +kernel) (by decide) h)
    · rw [if_neg hc26] at h
      refine g_ifT 353 (show op 0 338 = some (.ifCond .ne 15, 3) by decide +kernel) rfl (decide_eq_true hc26) ?_
      exact h
  · rw [if_neg hc25] at h
    refine g_icmpF 334 336 (show op 0 331 = some (.if_icmp .eq 5, 3) by decide +kernel) rfl rfl (decide_eq_false hc25) ?_
    refine g_iconst 335 (show op 0 334 = some (.iconst 0, 1) by decide +kernel) rfl rfl ?_
    exact (g_zret (show op 0 335 = some (.ireturn, 1) by decide +kernel) (by decide +kernel) (by decide) h)
theorem b0_356 {x4 : Int} {d5 : Option AV} {d6 : Option AV} {k : Nat} {n : Nat} {σ : Sg} {o : Rs} (h : (-2147483648 ≤ (x4 + 1) ∧ (x4 + 1) ≤ 2147483647) ∧ (0 ≤ (x4 + 1) ∧ (x4 + 1) < σ (SCR + 1) 0) ∧ (-2147483648 ≤ (x4 + 2) ∧ (x4 + 2) ≤ 2147483647) ∧ (0 ≤ (x4 + 2) ∧ (x4 + 2) < σ (SCR + 1) 0) ∧ ((k + 2) ≤ 601024 ∧ (n + 12) ≤ 7293034) ∧ (∃ (v6 : Int) (s5 : Sg), Dd 391 [(.inr (.inr (some 0))), (.inl (σ SCR ((x4 + 1)).toNat)), (.inl (σ SCR ((x4 + 2)).toNat)), (.inr (.inr (some 726)))] σ (.inl (some (.inl v6)), s5) ∧ (-2147483648 ≤ (x4 + 1) ∧ (x4 + 1) ≤ 2147483647) ∧ (0 ≤ (x4 + 1) ∧ (x4 + 1) < s5 (SCR + 1) 0) ∧ (-2147483648 ≤ (x4 + 2) ∧ (x4 + 2) ≤ 2147483647) ∧ (0 ≤ (x4 + 2) ∧ (x4 + 2) < s5 (SCR + 1) 0) ∧ ((k + 2) ≤ 601024 ∧ (n + 12) ≤ 7293034) ∧ (∃ (v14 : Int) (s13 : Sg), Dd 258 [(.inr (.inr (some 682))), (.inl (s5 SCR ((x4 + 1)).toNat)), (.inl (s5 SCR ((x4 + 2)).toNat))] s5 (.inl (some (.inl v14)), s13) ∧ ((k + 2) ≤ 601024 ∧ (n + 12) ≤ 7293034) ∧ (∃ (v18 : Int) (s17 : Sg), Dd 244 [(.inr (.inr (some 682)))] s13 (.inl (some (.inl v18)), s17) ∧ (if v18 = v6 then (if v6 = 0 then (if (if v14 < (s17 726 (0 : Int).toNat) then 1 else if (s17 726 (0 : Int).toNat) = v14 then 0 else -1) = 0 then C0_421 x4 (some (.inl v6)) (some (.inl v14)) (k + 2) (n + 12) s17 o else o = (.inl (some (.inl 0)), s17)) else C0_421 x4 (some (.inl v6)) (some (.inl v14)) (k + 2) (n + 12) s17 o) else o = (.inl (some (.inl 0)), s17)))))) : C0_356 x4 d5 d6 k n σ o := by
  show Gd 0 356 [(some (.inr (.inr (some SCR)))), (some (.inr (.inr (some 0)))), (some (.inr (.inr (some 682)))), (some (.inr (.inr (some 726)))), (some (.inl x4)), d5, d6] [] σ k n o
  refine g_aload_n 357 (show op 0 356 = some (.aload_n 1, 1) by decide +kernel) rfl rfl ?_
  refine g_aload_n 358 (show op 0 357 = some (.aload_n 0, 1) by decide +kernel) rfl rfl ?_
  refine g_iload 360 (show op 0 358 = some (.iload 4, 2) by decide +kernel) rfl rfl ?_
  refine g_iconst 361 (show op 0 360 = some (.iconst 1, 1) by decide +kernel) rfl rfl ?_
  obtain ⟨g1, h⟩ := h
  refine g_iadd 362 (show op 0 361 = some (.iadd, 1) by decide +kernel) rfl g1 ?_
  obtain ⟨g2, h⟩ := h
  refine g_scr 363 (show op 0 362 = some (.iaload, 1) by decide +kernel) rfl g2 ?_
  refine g_aload_n 364 (show op 0 363 = some (.aload_n 0, 1) by decide +kernel) rfl rfl ?_
  refine g_iload 366 (show op 0 364 = some (.iload 4, 2) by decide +kernel) rfl rfl ?_
  refine g_iconst 367 (show op 0 366 = some (.iconst 2, 1) by decide +kernel) rfl rfl ?_
  obtain ⟨g3, h⟩ := h
  refine g_iadd 368 (show op 0 367 = some (.iadd, 1) by decide +kernel) rfl g3 ?_
  obtain ⟨g4, h⟩ := h
  refine g_scr 369 (show op 0 368 = some (.iaload, 1) by decide +kernel) rfl g4 ?_
  refine g_aload_n 370 (show op 0 369 = some (.aload_n 3, 1) by decide +kernel) rfl rfl ?_
  obtain ⟨g8, h⟩ := h
  obtain ⟨v6, s5, hD7, h⟩ := h
  refine g_call 373 [(.inl v6)] (show op 0 370 = some (.invokestatic 197, 3) by decide +kernel) (call_stL (c := 2) (s := 12) (nj := 4) (j := 391) (t := []) (as := [(.inr (.inr (some 0))), (.inl (σ SCR ((x4 + 1)).toNat)), (.inl (σ SCR ((x4 + 2)).toNat)), (.inr (.inr (some 726)))]) (by decide +kernel) rfl (by decide +kernel) g8 rfl rfl rfl rfl rfl) hD7 rfl ?_
  refine g_istore 375 [(some (.inr (.inr (some SCR)))), (some (.inr (.inr (some 0)))), (some (.inr (.inr (some 682)))), (some (.inr (.inr (some 726)))), (some (.inl x4)), (some (.inl v6)), d6] (show op 0 373 = some (.istore 5, 2) by decide +kernel) rfl rfl rfl ?_
  refine g_aload_n 376 (show op 0 375 = some (.aload_n 2, 1) by decide +kernel) rfl rfl ?_
  refine g_aload_n 377 (show op 0 376 = some (.aload_n 0, 1) by decide +kernel) rfl rfl ?_
  refine g_iload 379 (show op 0 377 = some (.iload 4, 2) by decide +kernel) rfl rfl ?_
  refine g_iconst 380 (show op 0 379 = some (.iconst 1, 1) by decide +kernel) rfl rfl ?_
  obtain ⟨g9, h⟩ := h
  refine g_iadd 381 (show op 0 380 = some (.iadd, 1) by decide +kernel) rfl g9 ?_
  obtain ⟨g10, h⟩ := h
  refine g_scr 382 (show op 0 381 = some (.iaload, 1) by decide +kernel) rfl g10 ?_
  refine g_aload_n 383 (show op 0 382 = some (.aload_n 0, 1) by decide +kernel) rfl rfl ?_
  refine g_iload 385 (show op 0 383 = some (.iload 4, 2) by decide +kernel) rfl rfl ?_
  refine g_iconst 386 (show op 0 385 = some (.iconst 2, 1) by decide +kernel) rfl rfl ?_
  obtain ⟨g11, h⟩ := h
  refine g_iadd 387 (show op 0 386 = some (.iadd, 1) by decide +kernel) rfl g11 ?_
  obtain ⟨g12, h⟩ := h
  refine g_scr 388 (show op 0 387 = some (.iaload, 1) by decide +kernel) rfl g12 ?_
  obtain ⟨g16, h⟩ := h
  obtain ⟨v14, s13, hD15, h⟩ := h
  refine g_call 391 [(.inl v14)] (show op 0 388 = some (.invokevirtual 200, 3) by decide +kernel) (call_viL (c := 0) (s := 0) (nj := 3) (j := 258) (k9 := 21) (t := []) (as := [(.inr (.inr (some 682))), (.inl (s5 SCR ((x4 + 1)).toNat)), (.inl (s5 SCR ((x4 + 2)).toNat))]) (by decide +kernel) rfl (by decide +kernel) g16 rfl rfl rfl rfl rfl rfl (by decide +kernel) (by decide +kernel)) hD15 rfl ?_
  refine g_istore 393 [(some (.inr (.inr (some SCR)))), (some (.inr (.inr (some 0)))), (some (.inr (.inr (some 682)))), (some (.inr (.inr (some 726)))), (some (.inl x4)), (some (.inl v6)), (some (.inl v14))] (show op 0 391 = some (.istore 6, 2) by decide +kernel) rfl rfl rfl ?_
  refine g_aload_n 394 (show op 0 393 = some (.aload_n 2, 1) by decide +kernel) rfl rfl ?_
  obtain ⟨g20, h⟩ := h
  obtain ⟨v18, s17, hD19, h⟩ := h
  refine g_call 397 [(.inl v18)] (show op 0 394 = some (.invokevirtual 194, 3) by decide +kernel) (call_viL (c := 0) (s := 0) (nj := 1) (j := 244) (k9 := 21) (t := []) (as := [(.inr (.inr (some 682)))]) (by decide +kernel) rfl (by decide +kernel) g20 rfl rfl rfl rfl rfl rfl (by decide +kernel) (by decide +kernel)) hD19 rfl ?_
  refine g_iload 399 (show op 0 397 = some (.iload 5, 2) by decide +kernel) rfl rfl ?_
  by_cases hc21 : v18 = v6
  · rw [if_pos hc21] at h
    refine g_icmpT 404 (show op 0 399 = some (.if_icmp .eq 5, 3) by decide +kernel) rfl (decide_eq_true hc21) ?_
    refine g_iload 406 (show op 0 404 = some (.iload 5, 2) by decide +kernel) rfl rfl ?_
    by_cases hc22 : v6 = 0
    · rw [if_pos hc22] at h
      refine g_ifF 409 421 (show op 0 406 = some (.ifCond .ne 15, 3) by decide +kernel) rfl rfl (decide_eq_false (fun h9 => h9 hc22)) ?_
      refine g_aload_n 410 (show op 0 409 = some (.aload_n 3, 1) by decide +kernel) rfl rfl ?_
      refine g_iconst 411 (show op 0 410 = some (.iconst 0, 1) by decide +kernel) rfl rfl ?_
      refine g_laload 412 1 (show op 0 411 = some (.laload, 1) by decide +kernel) rfl (by decide +kernel) (by decide) ?_
      refine g_iload 414 (show op 0 412 = some (.iload 6, 2) by decide +kernel) rfl rfl ?_
      refine g_i2l 415 (show op 0 414 = some (.i2l, 1) by decide +kernel) rfl ?_
      refine g_lcmp 416 (show op 0 415 = some (.lcmp, 1) by decide +kernel) rfl ?_
      by_cases hc23 : (if v14 < (s17 726 (0 : Int).toNat) then 1 else if (s17 726 (0 : Int).toNat) = v14 then 0 else -1) = 0
      · rw [if_pos hc23] at h
        refine g_ifT 421 (show op 0 416 = some (.ifCond .eq 5, 3) by decide +kernel) rfl (decide_eq_true hc23) ?_
        exact h
      · rw [if_neg hc23] at h
        refine g_ifF 419 421 (show op 0 416 = some (.ifCond .eq 5, 3) by decide +kernel) rfl rfl (decide_eq_false hc23) ?_
        refine g_iconst 420 (show op 0 419 = some (.iconst 0, 1) by decide +kernel) rfl rfl ?_
        exact (g_zret (show op 0 420 = some (.ireturn, 1) by decide +kernel) (by decide +kernel) (by decide) h)
    · rw [if_neg hc22] at h
      refine g_ifT 421 (show op 0 406 = some (.ifCond .ne 15, 3) by decide +kernel) rfl (decide_eq_true hc22) ?_
      exact h
  · rw [if_neg hc21] at h
    refine g_icmpF 402 404 (show op 0 399 = some (.if_icmp .eq 5, 3) by decide +kernel) rfl rfl (decide_eq_false hc21) ?_
    refine g_iconst 403 (show op 0 402 = some (.iconst 0, 1) by decide +kernel) rfl rfl ?_
    exact (g_zret (show op 0 403 = some (.ireturn, 1) by decide +kernel) (by decide +kernel) (by decide) h)
theorem b0_424 {x4 : Int} {d5 : Option AV} {d6 : Option AV} {k : Nat} {n : Nat} {σ : Sg} {o : Rs} (h : (-2147483648 ≤ (x4 + 1) ∧ (x4 + 1) ≤ 2147483647) ∧ (0 ≤ (x4 + 1) ∧ (x4 + 1) < σ (SCR + 1) 0) ∧ (-2147483648 ≤ (x4 + 2) ∧ (x4 + 2) ≤ 2147483647) ∧ (0 ≤ (x4 + 2) ∧ (x4 + 2) < σ (SCR + 1) 0) ∧ ((k + 2) ≤ 601024 ∧ (n + 12) ≤ 7293034) ∧ (∃ (v6 : Int) (s5 : Sg), Dd 392 [(.inr (.inr (some 0))), (.inl (σ SCR ((x4 + 1)).toNat)), (.inl (σ SCR ((x4 + 2)).toNat)), (.inr (.inr (some 726)))] σ (.inl (some (.inl v6)), s5) ∧ (-2147483648 ≤ (x4 + 1) ∧ (x4 + 1) ≤ 2147483647) ∧ (0 ≤ (x4 + 1) ∧ (x4 + 1) < s5 (SCR + 1) 0) ∧ (-2147483648 ≤ (x4 + 2) ∧ (x4 + 2) ≤ 2147483647) ∧ (0 ≤ (x4 + 2) ∧ (x4 + 2) < s5 (SCR + 1) 0) ∧ ((k + 2) ≤ 601024 ∧ (n + 12) ≤ 7293034) ∧ (∃ (v14 : Int) (s13 : Sg), Dd 259 [(.inr (.inr (some 682))), (.inl (s5 SCR ((x4 + 1)).toNat)), (.inl (s5 SCR ((x4 + 2)).toNat))] s5 (.inl (some (.inl v14)), s13) ∧ ((k + 2) ≤ 601024 ∧ (n + 12) ≤ 7293034) ∧ (∃ (v18 : Int) (s17 : Sg), Dd 244 [(.inr (.inr (some 682)))] s13 (.inl (some (.inl v18)), s17) ∧ (if v18 = v6 then (if v6 = 0 then (if (if v14 < (s17 726 (0 : Int).toNat) then 1 else if (s17 726 (0 : Int).toNat) = v14 then 0 else -1) = 0 then C0_489 x4 (some (.inl v6)) (some (.inl v14)) (k + 2) (n + 12) s17 o else o = (.inl (some (.inl 0)), s17)) else C0_489 x4 (some (.inl v6)) (some (.inl v14)) (k + 2) (n + 12) s17 o) else o = (.inl (some (.inl 0)), s17)))))) : C0_424 x4 d5 d6 k n σ o := by
  show Gd 0 424 [(some (.inr (.inr (some SCR)))), (some (.inr (.inr (some 0)))), (some (.inr (.inr (some 682)))), (some (.inr (.inr (some 726)))), (some (.inl x4)), d5, d6] [] σ k n o
  refine g_aload_n 425 (show op 0 424 = some (.aload_n 1, 1) by decide +kernel) rfl rfl ?_
  refine g_aload_n 426 (show op 0 425 = some (.aload_n 0, 1) by decide +kernel) rfl rfl ?_
  refine g_iload 428 (show op 0 426 = some (.iload 4, 2) by decide +kernel) rfl rfl ?_
  refine g_iconst 429 (show op 0 428 = some (.iconst 1, 1) by decide +kernel) rfl rfl ?_
  obtain ⟨g1, h⟩ := h
  refine g_iadd 430 (show op 0 429 = some (.iadd, 1) by decide +kernel) rfl g1 ?_
  obtain ⟨g2, h⟩ := h
  refine g_scr 431 (show op 0 430 = some (.iaload, 1) by decide +kernel) rfl g2 ?_
  refine g_aload_n 432 (show op 0 431 = some (.aload_n 0, 1) by decide +kernel) rfl rfl ?_
  refine g_iload 434 (show op 0 432 = some (.iload 4, 2) by decide +kernel) rfl rfl ?_
  refine g_iconst 435 (show op 0 434 = some (.iconst 2, 1) by decide +kernel) rfl rfl ?_
  obtain ⟨g3, h⟩ := h
  refine g_iadd 436 (show op 0 435 = some (.iadd, 1) by decide +kernel) rfl g3 ?_
  obtain ⟨g4, h⟩ := h
  refine g_scr 437 (show op 0 436 = some (.iaload, 1) by decide +kernel) rfl g4 ?_
  refine g_aload_n 438 (show op 0 437 = some (.aload_n 3, 1) by decide +kernel) rfl rfl ?_
  obtain ⟨g8, h⟩ := h
  obtain ⟨v6, s5, hD7, h⟩ := h
  refine g_call 441 [(.inl v6)] (show op 0 438 = some (.invokestatic 201, 3) by decide +kernel) (call_stL (c := 2) (s := 12) (nj := 4) (j := 392) (t := []) (as := [(.inr (.inr (some 0))), (.inl (σ SCR ((x4 + 1)).toNat)), (.inl (σ SCR ((x4 + 2)).toNat)), (.inr (.inr (some 726)))]) (by decide +kernel) rfl (by decide +kernel) g8 rfl rfl rfl rfl rfl) hD7 rfl ?_
  refine g_istore 443 [(some (.inr (.inr (some SCR)))), (some (.inr (.inr (some 0)))), (some (.inr (.inr (some 682)))), (some (.inr (.inr (some 726)))), (some (.inl x4)), (some (.inl v6)), d6] (show op 0 441 = some (.istore 5, 2) by decide +kernel) rfl rfl rfl ?_
  refine g_aload_n 444 (show op 0 443 = some (.aload_n 2, 1) by decide +kernel) rfl rfl ?_
  refine g_aload_n 445 (show op 0 444 = some (.aload_n 0, 1) by decide +kernel) rfl rfl ?_
  refine g_iload 447 (show op 0 445 = some (.iload 4, 2) by decide +kernel) rfl rfl ?_
  refine g_iconst 448 (show op 0 447 = some (.iconst 1, 1) by decide +kernel) rfl rfl ?_
  obtain ⟨g9, h⟩ := h
  refine g_iadd 449 (show op 0 448 = some (.iadd, 1) by decide +kernel) rfl g9 ?_
  obtain ⟨g10, h⟩ := h
  refine g_scr 450 (show op 0 449 = some (.iaload, 1) by decide +kernel) rfl g10 ?_
  refine g_aload_n 451 (show op 0 450 = some (.aload_n 0, 1) by decide +kernel) rfl rfl ?_
  refine g_iload 453 (show op 0 451 = some (.iload 4, 2) by decide +kernel) rfl rfl ?_
  refine g_iconst 454 (show op 0 453 = some (.iconst 2, 1) by decide +kernel) rfl rfl ?_
  obtain ⟨g11, h⟩ := h
  refine g_iadd 455 (show op 0 454 = some (.iadd, 1) by decide +kernel) rfl g11 ?_
  obtain ⟨g12, h⟩ := h
  refine g_scr 456 (show op 0 455 = some (.iaload, 1) by decide +kernel) rfl g12 ?_
  obtain ⟨g16, h⟩ := h
  obtain ⟨v14, s13, hD15, h⟩ := h
  refine g_call 459 [(.inl v14)] (show op 0 456 = some (.invokevirtual 203, 3) by decide +kernel) (call_viL (c := 0) (s := 0) (nj := 3) (j := 259) (k9 := 21) (t := []) (as := [(.inr (.inr (some 682))), (.inl (s5 SCR ((x4 + 1)).toNat)), (.inl (s5 SCR ((x4 + 2)).toNat))]) (by decide +kernel) rfl (by decide +kernel) g16 rfl rfl rfl rfl rfl rfl (by decide +kernel) (by decide +kernel)) hD15 rfl ?_
  refine g_istore 461 [(some (.inr (.inr (some SCR)))), (some (.inr (.inr (some 0)))), (some (.inr (.inr (some 682)))), (some (.inr (.inr (some 726)))), (some (.inl x4)), (some (.inl v6)), (some (.inl v14))] (show op 0 459 = some (.istore 6, 2) by decide +kernel) rfl rfl rfl ?_
  refine g_aload_n 462 (show op 0 461 = some (.aload_n 2, 1) by decide +kernel) rfl rfl ?_
  obtain ⟨g20, h⟩ := h
  obtain ⟨v18, s17, hD19, h⟩ := h
  refine g_call 465 [(.inl v18)] (show op 0 462 = some (.invokevirtual 194, 3) by decide +kernel) (call_viL (c := 0) (s := 0) (nj := 1) (j := 244) (k9 := 21) (t := []) (as := [(.inr (.inr (some 682)))]) (by decide +kernel) rfl (by decide +kernel) g20 rfl rfl rfl rfl rfl rfl (by decide +kernel) (by decide +kernel)) hD19 rfl ?_
  refine g_iload 467 (show op 0 465 = some (.iload 5, 2) by decide +kernel) rfl rfl ?_
  by_cases hc21 : v18 = v6
  · rw [if_pos hc21] at h
    refine g_icmpT 472 (show op 0 467 = some (.if_icmp .eq 5, 3) by decide +kernel) rfl (decide_eq_true hc21) ?_
    refine g_iload 474 (show op 0 472 = some (.iload 5, 2) by decide +kernel) rfl rfl ?_
    by_cases hc22 : v6 = 0
    · rw [if_pos hc22] at h
      refine g_ifF 477 489 (show op 0 474 = some (.ifCond .ne 15, 3) by decide +kernel) rfl rfl (decide_eq_false (fun h9 => h9 hc22)) ?_
      refine g_aload_n 478 (show op 0 477 = some (.aload_n 3, 1) by decide +kernel) rfl rfl ?_
      refine g_iconst 479 (show op 0 478 = some (.iconst 0, 1) by decide +kernel) rfl rfl ?_
      refine g_laload 480 1 (show op 0 479 = some (.laload, 1) by decide +kernel) rfl (by decide +kernel) (by decide) ?_
      refine g_iload 482 (show op 0 480 = some (.iload 6, 2) by decide +kernel) rfl rfl ?_
      refine g_i2l 483 (show op 0 482 = some (.i2l, 1) by decide +kernel) rfl ?_
      refine g_lcmp 484 (show op 0 483 = some (.lcmp, 1) by decide +kernel) rfl ?_
      by_cases hc23 : (if v14 < (s17 726 (0 : Int).toNat) then 1 else if (s17 726 (0 : Int).toNat) = v14 then 0 else -1) = 0
      · rw [if_pos hc23] at h
        refine g_ifT 489 (show op 0 484 = some (.ifCond .eq 5, 3) by decide +kernel) rfl (decide_eq_true hc23) ?_
        exact h
      · rw [if_neg hc23] at h
        refine g_ifF 487 489 (show op 0 484 = some (.ifCond .eq 5, 3) by decide +kernel) rfl rfl (decide_eq_false hc23) ?_
        refine g_iconst 488 (show op 0 487 = some (.iconst 0, 1) by decide +kernel) rfl rfl ?_
        exact (g_zret (show op 0 488 = some (.ireturn, 1) by decide +kernel) (by decide +kernel) (by decide) h)
    · rw [if_neg hc22] at h
      refine g_ifT 489 (show op 0 474 = some (.ifCond .ne 15, 3) by decide +kernel) rfl (decide_eq_true hc22) ?_
      exact h
  · rw [if_neg hc21] at h
    refine g_icmpF 470 472 (show op 0 467 = some (.if_icmp .eq 5, 3) by decide +kernel) rfl rfl (decide_eq_false hc21) ?_
    refine g_iconst 471 (show op 0 470 = some (.iconst 0, 1) by decide +kernel) rfl rfl ?_
    exact (g_zret (show op 0 471 = some (.ireturn, 1) by decide +kernel) (by decide +kernel) (by decide) h)
theorem b0_492 {x4 : Int} {d5 : Option AV} {d6 : Option AV} {k : Nat} {n : Nat} {σ : Sg} {o : Rs} (h : (-2147483648 ≤ (x4 + 1) ∧ (x4 + 1) ≤ 2147483647) ∧ (0 ≤ (x4 + 1) ∧ (x4 + 1) < σ (SCR + 1) 0) ∧ ((k + 1) ≤ 601024 ∧ (n + 6) ≤ 7293034) ∧ (∃ (v4 : Int) (s3 : Sg), Dd 393 [(.inr (.inr (some 0))), (.inl (σ SCR ((x4 + 1)).toNat)), (.inr (.inr (some 726)))] σ (.inl (some (.inl v4)), s3) ∧ (-2147483648 ≤ (x4 + 1) ∧ (x4 + 1) ≤ 2147483647) ∧ (0 ≤ (x4 + 1) ∧ (x4 + 1) < s3 (SCR + 1) 0) ∧ ((k + 1) ≤ 601024 ∧ (n + 6) ≤ 7293034) ∧ (∃ (v10 : Int) (s9 : Sg), Dd 260 [(.inr (.inr (some 682))), (.inl (s3 SCR ((x4 + 1)).toNat))] s3 (.inl (some (.inl v10)), s9) ∧ ((k + 1) ≤ 601024 ∧ (n + 6) ≤ 7293034) ∧ (∃ (v14 : Int) (s13 : Sg), Dd 244 [(.inr (.inr (some 682)))] s9 (.inl (some (.inl v14)), s13) ∧ (if v14 = v4 then (if v4 = 0 then (if (if v10 < (s13 726 (0 : Int).toNat) then 1 else if (s13 726 (0 : Int).toNat) = v10 then 0 else -1) = 0 then C0_545 x4 (some (.inl v4)) (some (.inl v10)) (k + 1) (n + 6) s13 o else o = (.inl (some (.inl 0)), s13)) else C0_545 x4 (some (.inl v4)) (some (.inl v10)) (k + 1) (n + 6) s13 o) else o = (.inl (some (.inl 0)), s13)))))) : C0_492 x4 d5 d6 k n σ o := by
  show Gd 0 492 [(some (.inr (.inr (some SCR)))), (some (.inr (.inr (some 0)))), (some (.inr (.inr (some 682)))), (some (.inr (.inr (some 726)))), (some (.inl x4)), d5, d6] [] σ k n o
  refine g_aload_n 493 (show op 0 492 = some (.aload_n 1, 1) by decide +kernel) rfl rfl ?_
  refine g_aload_n 494 (show op 0 493 = some (.aload_n 0, 1) by decide +kernel) rfl rfl ?_
  refine g_iload 496 (show op 0 494 = some (.iload 4, 2) by decide +kernel) rfl rfl ?_
  refine g_iconst 497 (show op 0 496 = some (.iconst 1, 1) by decide +kernel) rfl rfl ?_
  obtain ⟨g1, h⟩ := h
  refine g_iadd 498 (show op 0 497 = some (.iadd, 1) by decide +kernel) rfl g1 ?_
  obtain ⟨g2, h⟩ := h
  refine g_scr 499 (show op 0 498 = some (.iaload, 1) by decide +kernel) rfl g2 ?_
  refine g_aload_n 500 (show op 0 499 = some (.aload_n 3, 1) by decide +kernel) rfl rfl ?_
  obtain ⟨g6, h⟩ := h
  obtain ⟨v4, s3, hD5, h⟩ := h
  refine g_call 503 [(.inl v4)] (show op 0 500 = some (.invokestatic 204, 3) by decide +kernel) (call_stL (c := 1) (s := 6) (nj := 3) (j := 393) (t := []) (as := [(.inr (.inr (some 0))), (.inl (σ SCR ((x4 + 1)).toNat)), (.inr (.inr (some 726)))]) (by decide +kernel) rfl (by decide +kernel) g6 rfl rfl rfl rfl rfl) hD5 rfl ?_
  refine g_istore 505 [(some (.inr (.inr (some SCR)))), (some (.inr (.inr (some 0)))), (some (.inr (.inr (some 682)))), (some (.inr (.inr (some 726)))), (some (.inl x4)), (some (.inl v4)), d6] (show op 0 503 = some (.istore 5, 2) by decide +kernel) rfl rfl rfl ?_
  refine g_aload_n 506 (show op 0 505 = some (.aload_n 2, 1) by decide +kernel) rfl rfl ?_
  refine g_aload_n 507 (show op 0 506 = some (.aload_n 0, 1) by decide +kernel) rfl rfl ?_
  refine g_iload 509 (show op 0 507 = some (.iload 4, 2) by decide +kernel) rfl rfl ?_
  refine g_iconst 510 (show op 0 509 = some (.iconst 1, 1) by decide +kernel) rfl rfl ?_
  obtain ⟨g7, h⟩ := h
  refine g_iadd 511 (show op 0 510 = some (.iadd, 1) by decide +kernel) rfl g7 ?_
  obtain ⟨g8, h⟩ := h
  refine g_scr 512 (show op 0 511 = some (.iaload, 1) by decide +kernel) rfl g8 ?_
  obtain ⟨g12, h⟩ := h
  obtain ⟨v10, s9, hD11, h⟩ := h
  refine g_call 515 [(.inl v10)] (show op 0 512 = some (.invokevirtual 207, 3) by decide +kernel) (call_viL (c := 0) (s := 0) (nj := 2) (j := 260) (k9 := 21) (t := []) (as := [(.inr (.inr (some 682))), (.inl (s3 SCR ((x4 + 1)).toNat))]) (by decide +kernel) rfl (by decide +kernel) g12 rfl rfl rfl rfl rfl rfl (by decide +kernel) (by decide +kernel)) hD11 rfl ?_
  refine g_istore 517 [(some (.inr (.inr (some SCR)))), (some (.inr (.inr (some 0)))), (some (.inr (.inr (some 682)))), (some (.inr (.inr (some 726)))), (some (.inl x4)), (some (.inl v4)), (some (.inl v10))] (show op 0 515 = some (.istore 6, 2) by decide +kernel) rfl rfl rfl ?_
  refine g_aload_n 518 (show op 0 517 = some (.aload_n 2, 1) by decide +kernel) rfl rfl ?_
  obtain ⟨g16, h⟩ := h
  obtain ⟨v14, s13, hD15, h⟩ := h
  refine g_call 521 [(.inl v14)] (show op 0 518 = some (.invokevirtual 194, 3) by decide +kernel) (call_viL (c := 0) (s := 0) (nj := 1) (j := 244) (k9 := 21) (t := []) (as := [(.inr (.inr (some 682)))]) (by decide +kernel) rfl (by decide +kernel) g16 rfl rfl rfl rfl rfl rfl (by decide +kernel) (by decide +kernel)) hD15 rfl ?_
  refine g_iload 523 (show op 0 521 = some (.iload 5, 2) by decide +kernel) rfl rfl ?_
  by_cases hc17 : v14 = v4
  · rw [if_pos hc17] at h
    refine g_icmpT 528 (show op 0 523 = some (.if_icmp .eq 5, 3) by decide +kernel) rfl (decide_eq_true hc17) ?_
    refine g_iload 530 (show op 0 528 = some (.iload 5, 2) by decide +kernel) rfl rfl ?_
    by_cases hc18 : v4 = 0
    · rw [if_pos hc18] at h
      refine g_ifF 533 545 (show op 0 530 = some (.ifCond .ne 15, 3) by decide +kernel) rfl rfl (decide_eq_false (fun h9 => h9 hc18)) ?_
      refine g_aload_n 534 (show op 0 533 = some (.aload_n 3, 1) by decide +kernel) rfl rfl ?_
      refine g_iconst 535 (show op 0 534 = some (.iconst 0, 1) by decide +kernel) rfl rfl ?_
      refine g_laload 536 1 (show op 0 535 = some (.laload, 1) by decide +kernel) rfl (by decide +kernel) (by decide) ?_
      refine g_iload 538 (show op 0 536 = some (.iload 6, 2) by decide +kernel) rfl rfl ?_
      refine g_i2l 539 (show op 0 538 = some (.i2l, 1) by decide +kernel) rfl ?_
      refine g_lcmp 540 (show op 0 539 = some (.lcmp, 1) by decide +kernel) rfl ?_
      by_cases hc19 : (if v10 < (s13 726 (0 : Int).toNat) then 1 else if (s13 726 (0 : Int).toNat) = v10 then 0 else -1) = 0
      · rw [if_pos hc19] at h
        refine g_ifT 545 (show op 0 540 = some (.ifCond .eq 5, 3) by decide +kernel) rfl (decide_eq_true hc19) ?_
        exact h
      · rw [if_neg hc19] at h
        refine g_ifF 543 545 (show op 0 540 = some (.ifCond .eq 5, 3) by decide +kernel) rfl rfl (decide_eq_false hc19) ?_
        refine g_iconst 544 (show op 0 543 = some (.iconst 0, 1) by decide +kernel) rfl rfl ?_
        exact (g_zret (show op 0 544 = some (.ireturn, 1) by decide +kernel) (by decide +kernel) (by decide) h)
    · rw [if_neg hc18] at h
      refine g_ifT 545 (show op 0 530 = some (.ifCond .ne 15, 3) by decide +kernel) rfl (decide_eq_true hc18) ?_
      exact h
  · rw [if_neg hc17] at h
    refine g_icmpF 526 528 (show op 0 523 = some (.if_icmp .eq 5, 3) by decide +kernel) rfl rfl (decide_eq_false hc17) ?_
    refine g_iconst 527 (show op 0 526 = some (.iconst 0, 1) by decide +kernel) rfl rfl ?_
    exact (g_zret (show op 0 527 = some (.ireturn, 1) by decide +kernel) (by decide +kernel) (by decide) h)
theorem b0_548 {x4 : Int} {d5 : Option AV} {d6 : Option AV} {k : Nat} {n : Nat} {σ : Sg} {o : Rs} (h : (-2147483648 ≤ (x4 + 1) ∧ (x4 + 1) ≤ 2147483647) ∧ (0 ≤ (x4 + 1) ∧ (x4 + 1) < σ (SCR + 1) 0) ∧ (-2147483648 ≤ (x4 + 2) ∧ (x4 + 2) ≤ 2147483647) ∧ (0 ≤ (x4 + 2) ∧ (x4 + 2) < σ (SCR + 1) 0) ∧ ((k + 2) ≤ 601024 ∧ (n + 12) ≤ 7293034) ∧ (∃ (v6 : Int) (s5 : Sg), Dd 394 [(.inr (.inr (some 0))), (.inl (σ SCR ((x4 + 1)).toNat)), (.inl (σ SCR ((x4 + 2)).toNat)), (.inr (.inr (some 726)))] σ (.inl (some (.inl v6)), s5) ∧ (-2147483648 ≤ (x4 + 1) ∧ (x4 + 1) ≤ 2147483647) ∧ (0 ≤ (x4 + 1) ∧ (x4 + 1) < s5 (SCR + 1) 0) ∧ (-2147483648 ≤ (x4 + 2) ∧ (x4 + 2) ≤ 2147483647) ∧ (0 ≤ (x4 + 2) ∧ (x4 + 2) < s5 (SCR + 1) 0) ∧ ((k + 2) ≤ 601024 ∧ (n + 12) ≤ 7293034) ∧ (∃ (v14 : Int) (s13 : Sg), Dd 261 [(.inr (.inr (some 682))), (.inl (s5 SCR ((x4 + 1)).toNat)), (.inl (s5 SCR ((x4 + 2)).toNat))] s5 (.inl (some (.inl v14)), s13) ∧ ((k + 2) ≤ 601024 ∧ (n + 12) ≤ 7293034) ∧ (∃ (v18 : Int) (s17 : Sg), Dd 244 [(.inr (.inr (some 682)))] s13 (.inl (some (.inl v18)), s17) ∧ (if v18 = v6 then (if v6 = 0 then (if (if v14 < (s17 726 (0 : Int).toNat) then 1 else if (s17 726 (0 : Int).toNat) = v14 then 0 else -1) = 0 then C0_613 x4 (some (.inl v6)) (some (.inl v14)) (k + 2) (n + 12) s17 o else o = (.inl (some (.inl 0)), s17)) else C0_613 x4 (some (.inl v6)) (some (.inl v14)) (k + 2) (n + 12) s17 o) else o = (.inl (some (.inl 0)), s17)))))) : C0_548 x4 d5 d6 k n σ o := by
  show Gd 0 548 [(some (.inr (.inr (some SCR)))), (some (.inr (.inr (some 0)))), (some (.inr (.inr (some 682)))), (some (.inr (.inr (some 726)))), (some (.inl x4)), d5, d6] [] σ k n o
  refine g_aload_n 549 (show op 0 548 = some (.aload_n 1, 1) by decide +kernel) rfl rfl ?_
  refine g_aload_n 550 (show op 0 549 = some (.aload_n 0, 1) by decide +kernel) rfl rfl ?_
  refine g_iload 552 (show op 0 550 = some (.iload 4, 2) by decide +kernel) rfl rfl ?_
  refine g_iconst 553 (show op 0 552 = some (.iconst 1, 1) by decide +kernel) rfl rfl ?_
  obtain ⟨g1, h⟩ := h
  refine g_iadd 554 (show op 0 553 = some (.iadd, 1) by decide +kernel) rfl g1 ?_
  obtain ⟨g2, h⟩ := h
  refine g_scr 555 (show op 0 554 = some (.iaload, 1) by decide +kernel) rfl g2 ?_
  refine g_aload_n 556 (show op 0 555 = some (.aload_n 0, 1) by decide +kernel) rfl rfl ?_
  refine g_iload 558 (show op 0 556 = some (.iload 4, 2) by decide +kernel) rfl rfl ?_
  refine g_iconst 559 (show op 0 558 = some (.iconst 2, 1) by decide +kernel) rfl rfl ?_
  obtain ⟨g3, h⟩ := h
  refine g_iadd 560 (show op 0 559 = some (.iadd, 1) by decide +kernel) rfl g3 ?_
  obtain ⟨g4, h⟩ := h
  refine g_scr 561 (show op 0 560 = some (.iaload, 1) by decide +kernel) rfl g4 ?_
  refine g_aload_n 562 (show op 0 561 = some (.aload_n 3, 1) by decide +kernel) rfl rfl ?_
  obtain ⟨g8, h⟩ := h
  obtain ⟨v6, s5, hD7, h⟩ := h
  refine g_call 565 [(.inl v6)] (show op 0 562 = some (.invokestatic 208, 3) by decide +kernel) (call_stL (c := 2) (s := 12) (nj := 4) (j := 394) (t := []) (as := [(.inr (.inr (some 0))), (.inl (σ SCR ((x4 + 1)).toNat)), (.inl (σ SCR ((x4 + 2)).toNat)), (.inr (.inr (some 726)))]) (by decide +kernel) rfl (by decide +kernel) g8 rfl rfl rfl rfl rfl) hD7 rfl ?_
  refine g_istore 567 [(some (.inr (.inr (some SCR)))), (some (.inr (.inr (some 0)))), (some (.inr (.inr (some 682)))), (some (.inr (.inr (some 726)))), (some (.inl x4)), (some (.inl v6)), d6] (show op 0 565 = some (.istore 5, 2) by decide +kernel) rfl rfl rfl ?_
  refine g_aload_n 568 (show op 0 567 = some (.aload_n 2, 1) by decide +kernel) rfl rfl ?_
  refine g_aload_n 569 (show op 0 568 = some (.aload_n 0, 1) by decide +kernel) rfl rfl ?_
  refine g_iload 571 (show op 0 569 = some (.iload 4, 2) by decide +kernel) rfl rfl ?_
  refine g_iconst 572 (show op 0 571 = some (.iconst 1, 1) by decide +kernel) rfl rfl ?_
  obtain ⟨g9, h⟩ := h
  refine g_iadd 573 (show op 0 572 = some (.iadd, 1) by decide +kernel) rfl g9 ?_
  obtain ⟨g10, h⟩ := h
  refine g_scr 574 (show op 0 573 = some (.iaload, 1) by decide +kernel) rfl g10 ?_
  refine g_aload_n 575 (show op 0 574 = some (.aload_n 0, 1) by decide +kernel) rfl rfl ?_
  refine g_iload 577 (show op 0 575 = some (.iload 4, 2) by decide +kernel) rfl rfl ?_
  refine g_iconst 578 (show op 0 577 = some (.iconst 2, 1) by decide +kernel) rfl rfl ?_
  obtain ⟨g11, h⟩ := h
  refine g_iadd 579 (show op 0 578 = some (.iadd, 1) by decide +kernel) rfl g11 ?_
  obtain ⟨g12, h⟩ := h
  refine g_scr 580 (show op 0 579 = some (.iaload, 1) by decide +kernel) rfl g12 ?_
  obtain ⟨g16, h⟩ := h
  obtain ⟨v14, s13, hD15, h⟩ := h
  refine g_call 583 [(.inl v14)] (show op 0 580 = some (.invokevirtual 210, 3) by decide +kernel) (call_viL (c := 0) (s := 0) (nj := 3) (j := 261) (k9 := 21) (t := []) (as := [(.inr (.inr (some 682))), (.inl (s5 SCR ((x4 + 1)).toNat)), (.inl (s5 SCR ((x4 + 2)).toNat))]) (by decide +kernel) rfl (by decide +kernel) g16 rfl rfl rfl rfl rfl rfl (by decide +kernel) (by decide +kernel)) hD15 rfl ?_
  refine g_istore 585 [(some (.inr (.inr (some SCR)))), (some (.inr (.inr (some 0)))), (some (.inr (.inr (some 682)))), (some (.inr (.inr (some 726)))), (some (.inl x4)), (some (.inl v6)), (some (.inl v14))] (show op 0 583 = some (.istore 6, 2) by decide +kernel) rfl rfl rfl ?_
  refine g_aload_n 586 (show op 0 585 = some (.aload_n 2, 1) by decide +kernel) rfl rfl ?_
  obtain ⟨g20, h⟩ := h
  obtain ⟨v18, s17, hD19, h⟩ := h
  refine g_call 589 [(.inl v18)] (show op 0 586 = some (.invokevirtual 194, 3) by decide +kernel) (call_viL (c := 0) (s := 0) (nj := 1) (j := 244) (k9 := 21) (t := []) (as := [(.inr (.inr (some 682)))]) (by decide +kernel) rfl (by decide +kernel) g20 rfl rfl rfl rfl rfl rfl (by decide +kernel) (by decide +kernel)) hD19 rfl ?_
  refine g_iload 591 (show op 0 589 = some (.iload 5, 2) by decide +kernel) rfl rfl ?_
  by_cases hc21 : v18 = v6
  · rw [if_pos hc21] at h
    refine g_icmpT 596 (show op 0 591 = some (.if_icmp .eq 5, 3) by decide +kernel) rfl (decide_eq_true hc21) ?_
    refine g_iload 598 (show op 0 596 = some (.iload 5, 2) by decide +kernel) rfl rfl ?_
    by_cases hc22 : v6 = 0
    · rw [if_pos hc22] at h
      refine g_ifF 601 613 (show op 0 598 = some (.ifCond .ne 15, 3) by decide +kernel) rfl rfl (decide_eq_false (fun h9 => h9 hc22)) ?_
      refine g_aload_n 602 (show op 0 601 = some (.aload_n 3, 1) by decide +kernel) rfl rfl ?_
      refine g_iconst 603 (show op 0 602 = some (.iconst 0, 1) by decide +kernel) rfl rfl ?_
      refine g_laload 604 1 (show op 0 603 = some (.laload, 1) by decide +kernel) rfl (by decide +kernel) (by decide) ?_
      refine g_iload 606 (show op 0 604 = some (.iload 6, 2) by decide +kernel) rfl rfl ?_
      refine g_i2l 607 (show op 0 606 = some (.i2l, 1) by decide +kernel) rfl ?_
      refine g_lcmp 608 (show op 0 607 = some (.lcmp, 1) by decide +kernel) rfl ?_
      by_cases hc23 : (if v14 < (s17 726 (0 : Int).toNat) then 1 else if (s17 726 (0 : Int).toNat) = v14 then 0 else -1) = 0
      · rw [if_pos hc23] at h
        refine g_ifT 613 (show op 0 608 = some (.ifCond .eq 5, 3) by decide +kernel) rfl (decide_eq_true hc23) ?_
        exact h
      · rw [if_neg hc23] at h
        refine g_ifF 611 613 (show op 0 608 = some (.ifCond .eq 5, 3) by decide +kernel) rfl rfl (decide_eq_false hc23) ?_
        refine g_iconst 612 (show op 0 611 = some (.iconst 0, 1) by decide +kernel) rfl rfl ?_
        exact (g_zret (show op 0 612 = some (.ireturn, 1) by decide +kernel) (by decide +kernel) (by decide) h)
    · rw [if_neg hc22] at h
      refine g_ifT 613 (show op 0 598 = some (.ifCond .ne 15, 3) by decide +kernel) rfl (decide_eq_true hc22) ?_
      exact h
  · rw [if_neg hc21] at h
    refine g_icmpF 594 596 (show op 0 591 = some (.if_icmp .eq 5, 3) by decide +kernel) rfl rfl (decide_eq_false hc21) ?_
    refine g_iconst 595 (show op 0 594 = some (.iconst 0, 1) by decide +kernel) rfl rfl ?_
    exact (g_zret (show op 0 595 = some (.ireturn, 1) by decide +kernel) (by decide +kernel) (by decide) h)
theorem b0_616 {x4 : Int} {d5 : Option AV} {d6 : Option AV} {k : Nat} {n : Nat} {σ : Sg} {o : Rs} (h : (-2147483648 ≤ (x4 + 1) ∧ (x4 + 1) ≤ 2147483647) ∧ (0 ≤ (x4 + 1) ∧ (x4 + 1) < σ (SCR + 1) 0) ∧ (-2147483648 ≤ (x4 + 2) ∧ (x4 + 2) ≤ 2147483647) ∧ (0 ≤ (x4 + 2) ∧ (x4 + 2) < σ (SCR + 1) 0) ∧ ((k + 2) ≤ 601024 ∧ (n + 12) ≤ 7293034) ∧ (∃ (v6 : Int) (s5 : Sg), Dd 395 [(.inr (.inr (some 0))), (.inl (σ SCR ((x4 + 1)).toNat)), (.inl (σ SCR ((x4 + 2)).toNat)), (.inr (.inr (some 726)))] σ (.inl (some (.inl v6)), s5) ∧ (-2147483648 ≤ (x4 + 1) ∧ (x4 + 1) ≤ 2147483647) ∧ (0 ≤ (x4 + 1) ∧ (x4 + 1) < s5 (SCR + 1) 0) ∧ (-2147483648 ≤ (x4 + 2) ∧ (x4 + 2) ≤ 2147483647) ∧ (0 ≤ (x4 + 2) ∧ (x4 + 2) < s5 (SCR + 1) 0) ∧ ((k + 2) ≤ 601024 ∧ (n + 12) ≤ 7293034) ∧ (∃ (v14 : Int) (s13 : Sg), Dd 262 [(.inr (.inr (some 682))), (.inl (s5 SCR ((x4 + 1)).toNat)), (.inl (s5 SCR ((x4 + 2)).toNat))] s5 (.inl (some (.inl v14)), s13) ∧ ((k + 2) ≤ 601024 ∧ (n + 12) ≤ 7293034) ∧ (∃ (v18 : Int) (s17 : Sg), Dd 244 [(.inr (.inr (some 682)))] s13 (.inl (some (.inl v18)), s17) ∧ (if v18 = v6 then (if v6 = 0 then (if (if v14 < (s17 726 (0 : Int).toNat) then 1 else if (s17 726 (0 : Int).toNat) = v14 then 0 else -1) = 0 then C0_681 x4 (some (.inl v6)) (some (.inl v14)) (k + 2) (n + 12) s17 o else o = (.inl (some (.inl 0)), s17)) else C0_681 x4 (some (.inl v6)) (some (.inl v14)) (k + 2) (n + 12) s17 o) else o = (.inl (some (.inl 0)), s17)))))) : C0_616 x4 d5 d6 k n σ o := by
  show Gd 0 616 [(some (.inr (.inr (some SCR)))), (some (.inr (.inr (some 0)))), (some (.inr (.inr (some 682)))), (some (.inr (.inr (some 726)))), (some (.inl x4)), d5, d6] [] σ k n o
  refine g_aload_n 617 (show op 0 616 = some (.aload_n 1, 1) by decide +kernel) rfl rfl ?_
  refine g_aload_n 618 (show op 0 617 = some (.aload_n 0, 1) by decide +kernel) rfl rfl ?_
  refine g_iload 620 (show op 0 618 = some (.iload 4, 2) by decide +kernel) rfl rfl ?_
  refine g_iconst 621 (show op 0 620 = some (.iconst 1, 1) by decide +kernel) rfl rfl ?_
  obtain ⟨g1, h⟩ := h
  refine g_iadd 622 (show op 0 621 = some (.iadd, 1) by decide +kernel) rfl g1 ?_
  obtain ⟨g2, h⟩ := h
  refine g_scr 623 (show op 0 622 = some (.iaload, 1) by decide +kernel) rfl g2 ?_
  refine g_aload_n 624 (show op 0 623 = some (.aload_n 0, 1) by decide +kernel) rfl rfl ?_
  refine g_iload 626 (show op 0 624 = some (.iload 4, 2) by decide +kernel) rfl rfl ?_
  refine g_iconst 627 (show op 0 626 = some (.iconst 2, 1) by decide +kernel) rfl rfl ?_
  obtain ⟨g3, h⟩ := h
  refine g_iadd 628 (show op 0 627 = some (.iadd, 1) by decide +kernel) rfl g3 ?_
  obtain ⟨g4, h⟩ := h
  refine g_scr 629 (show op 0 628 = some (.iaload, 1) by decide +kernel) rfl g4 ?_
  refine g_aload_n 630 (show op 0 629 = some (.aload_n 3, 1) by decide +kernel) rfl rfl ?_
  obtain ⟨g8, h⟩ := h
  obtain ⟨v6, s5, hD7, h⟩ := h
  refine g_call 633 [(.inl v6)] (show op 0 630 = some (.invokestatic 211, 3) by decide +kernel) (call_stL (c := 2) (s := 12) (nj := 4) (j := 395) (t := []) (as := [(.inr (.inr (some 0))), (.inl (σ SCR ((x4 + 1)).toNat)), (.inl (σ SCR ((x4 + 2)).toNat)), (.inr (.inr (some 726)))]) (by decide +kernel) rfl (by decide +kernel) g8 rfl rfl rfl rfl rfl) hD7 rfl ?_
  refine g_istore 635 [(some (.inr (.inr (some SCR)))), (some (.inr (.inr (some 0)))), (some (.inr (.inr (some 682)))), (some (.inr (.inr (some 726)))), (some (.inl x4)), (some (.inl v6)), d6] (show op 0 633 = some (.istore 5, 2) by decide +kernel) rfl rfl rfl ?_
  refine g_aload_n 636 (show op 0 635 = some (.aload_n 2, 1) by decide +kernel) rfl rfl ?_
  refine g_aload_n 637 (show op 0 636 = some (.aload_n 0, 1) by decide +kernel) rfl rfl ?_
  refine g_iload 639 (show op 0 637 = some (.iload 4, 2) by decide +kernel) rfl rfl ?_
  refine g_iconst 640 (show op 0 639 = some (.iconst 1, 1) by decide +kernel) rfl rfl ?_
  obtain ⟨g9, h⟩ := h
  refine g_iadd 641 (show op 0 640 = some (.iadd, 1) by decide +kernel) rfl g9 ?_
  obtain ⟨g10, h⟩ := h
  refine g_scr 642 (show op 0 641 = some (.iaload, 1) by decide +kernel) rfl g10 ?_
  refine g_aload_n 643 (show op 0 642 = some (.aload_n 0, 1) by decide +kernel) rfl rfl ?_
  refine g_iload 645 (show op 0 643 = some (.iload 4, 2) by decide +kernel) rfl rfl ?_
  refine g_iconst 646 (show op 0 645 = some (.iconst 2, 1) by decide +kernel) rfl rfl ?_
  obtain ⟨g11, h⟩ := h
  refine g_iadd 647 (show op 0 646 = some (.iadd, 1) by decide +kernel) rfl g11 ?_
  obtain ⟨g12, h⟩ := h
  refine g_scr 648 (show op 0 647 = some (.iaload, 1) by decide +kernel) rfl g12 ?_
  obtain ⟨g16, h⟩ := h
  obtain ⟨v14, s13, hD15, h⟩ := h
  refine g_call 651 [(.inl v14)] (show op 0 648 = some (.invokevirtual 213, 3) by decide +kernel) (call_viL (c := 0) (s := 0) (nj := 3) (j := 262) (k9 := 21) (t := []) (as := [(.inr (.inr (some 682))), (.inl (s5 SCR ((x4 + 1)).toNat)), (.inl (s5 SCR ((x4 + 2)).toNat))]) (by decide +kernel) rfl (by decide +kernel) g16 rfl rfl rfl rfl rfl rfl (by decide +kernel) (by decide +kernel)) hD15 rfl ?_
  refine g_istore 653 [(some (.inr (.inr (some SCR)))), (some (.inr (.inr (some 0)))), (some (.inr (.inr (some 682)))), (some (.inr (.inr (some 726)))), (some (.inl x4)), (some (.inl v6)), (some (.inl v14))] (show op 0 651 = some (.istore 6, 2) by decide +kernel) rfl rfl rfl ?_
  refine g_aload_n 654 (show op 0 653 = some (.aload_n 2, 1) by decide +kernel) rfl rfl ?_
  obtain ⟨g20, h⟩ := h
  obtain ⟨v18, s17, hD19, h⟩ := h
  refine g_call 657 [(.inl v18)] (show op 0 654 = some (.invokevirtual 194, 3) by decide +kernel) (call_viL (c := 0) (s := 0) (nj := 1) (j := 244) (k9 := 21) (t := []) (as := [(.inr (.inr (some 682)))]) (by decide +kernel) rfl (by decide +kernel) g20 rfl rfl rfl rfl rfl rfl (by decide +kernel) (by decide +kernel)) hD19 rfl ?_
  refine g_iload 659 (show op 0 657 = some (.iload 5, 2) by decide +kernel) rfl rfl ?_
  by_cases hc21 : v18 = v6
  · rw [if_pos hc21] at h
    refine g_icmpT 664 (show op 0 659 = some (.if_icmp .eq 5, 3) by decide +kernel) rfl (decide_eq_true hc21) ?_
    refine g_iload 666 (show op 0 664 = some (.iload 5, 2) by decide +kernel) rfl rfl ?_
    by_cases hc22 : v6 = 0
    · rw [if_pos hc22] at h
      refine g_ifF 669 681 (show op 0 666 = some (.ifCond .ne 15, 3) by decide +kernel) rfl rfl (decide_eq_false (fun h9 => h9 hc22)) ?_
      refine g_aload_n 670 (show op 0 669 = some (.aload_n 3, 1) by decide +kernel) rfl rfl ?_
      refine g_iconst 671 (show op 0 670 = some (.iconst 0, 1) by decide +kernel) rfl rfl ?_
      refine g_laload 672 1 (show op 0 671 = some (.laload, 1) by decide +kernel) rfl (by decide +kernel) (by decide) ?_
      refine g_iload 674 (show op 0 672 = some (.iload 6, 2) by decide +kernel) rfl rfl ?_
      refine g_i2l 675 (show op 0 674 = some (.i2l, 1) by decide +kernel) rfl ?_
      refine g_lcmp 676 (show op 0 675 = some (.lcmp, 1) by decide +kernel) rfl ?_
      by_cases hc23 : (if v14 < (s17 726 (0 : Int).toNat) then 1 else if (s17 726 (0 : Int).toNat) = v14 then 0 else -1) = 0
      · rw [if_pos hc23] at h
        refine g_ifT 681 (show op 0 676 = some (.ifCond .eq 5, 3) by decide +kernel) rfl (decide_eq_true hc23) ?_
        exact h
      · rw [if_neg hc23] at h
        refine g_ifF 679 681 (show op 0 676 = some (.ifCond .eq 5, 3) by decide +kernel) rfl rfl (decide_eq_false hc23) ?_
        refine g_iconst 680 (show op 0 679 = some (.iconst 0, 1) by decide +kernel) rfl rfl ?_
        exact (g_zret (show op 0 680 = some (.ireturn, 1) by decide +kernel) (by decide +kernel) (by decide) h)
    · rw [if_neg hc22] at h
      refine g_ifT 681 (show op 0 666 = some (.ifCond .ne 15, 3) by decide +kernel) rfl (decide_eq_true hc22) ?_
      exact h
  · rw [if_neg hc21] at h
    refine g_icmpF 662 664 (show op 0 659 = some (.if_icmp .eq 5, 3) by decide +kernel) rfl rfl (decide_eq_false hc21) ?_
    refine g_iconst 663 (show op 0 662 = some (.iconst 0, 1) by decide +kernel) rfl rfl ?_
    exact (g_zret (show op 0 663 = some (.ireturn, 1) by decide +kernel) (by decide +kernel) (by decide) h)
theorem b0_684 {x4 : Int} {d5 : Option AV} {d6 : Option AV} {k : Nat} {n : Nat} {σ : Sg} {o : Rs} (h : (-2147483648 ≤ (x4 + 1) ∧ (x4 + 1) ≤ 2147483647) ∧ (0 ≤ (x4 + 1) ∧ (x4 + 1) < σ (SCR + 1) 0) ∧ (-2147483648 ≤ (x4 + 2) ∧ (x4 + 2) ≤ 2147483647) ∧ (0 ≤ (x4 + 2) ∧ (x4 + 2) < σ (SCR + 1) 0) ∧ (-2147483648 ≤ (x4 + 3) ∧ (x4 + 3) ≤ 2147483647) ∧ (0 ≤ (x4 + 3) ∧ (x4 + 3) < σ (SCR + 1) 0) ∧ (-2147483648 ≤ (x4 + 4) ∧ (x4 + 4) ≤ 2147483647) ∧ (0 ≤ (x4 + 4) ∧ (x4 + 4) < σ (SCR + 1) 0) ∧ ((k + 4) ≤ 601024 ∧ (n + 24) ≤ 7293034) ∧ (∃ (v10 : Int) (s9 : Sg), Dd 396 [(.inr (.inr (some 0))), (.inl (σ SCR ((x4 + 1)).toNat)), (.inl (σ SCR ((x4 + 2)).toNat)), (.inl (σ SCR ((x4 + 3)).toNat)), (.inl (σ SCR ((x4 + 4)).toNat)), (.inr (.inr (some 726)))] σ (.inl (some (.inl v10)), s9) ∧ (-2147483648 ≤ (x4 + 1) ∧ (x4 + 1) ≤ 2147483647) ∧ (0 ≤ (x4 + 1) ∧ (x4 + 1) < s9 (SCR + 1) 0) ∧ (-2147483648 ≤ (x4 + 2) ∧ (x4 + 2) ≤ 2147483647) ∧ (0 ≤ (x4 + 2) ∧ (x4 + 2) < s9 (SCR + 1) 0) ∧ (-2147483648 ≤ (x4 + 3) ∧ (x4 + 3) ≤ 2147483647) ∧ (0 ≤ (x4 + 3) ∧ (x4 + 3) < s9 (SCR + 1) 0) ∧ (-2147483648 ≤ (x4 + 4) ∧ (x4 + 4) ≤ 2147483647) ∧ (0 ≤ (x4 + 4) ∧ (x4 + 4) < s9 (SCR + 1) 0) ∧ ((k + 4) ≤ 601024 ∧ (n + 24) ≤ 7293034) ∧ (∃ (v22 : Int) (s21 : Sg), Dd 277 [(.inr (.inr (some 682))), (.inl (s9 SCR ((x4 + 1)).toNat)), (.inl (s9 SCR ((x4 + 2)).toNat)), (.inl (s9 SCR ((x4 + 3)).toNat)), (.inl (s9 SCR ((x4 + 4)).toNat))] s9 (.inl (some (.inl v22)), s21) ∧ ((k + 4) ≤ 601024 ∧ (n + 24) ≤ 7293034) ∧ (∃ (v26 : Int) (s25 : Sg), Dd 244 [(.inr (.inr (some 682)))] s21 (.inl (some (.inl v26)), s25) ∧ (if v26 = v10 then (if v10 = 0 then (if (if v22 < (s25 726 (0 : Int).toNat) then 1 else if (s25 726 (0 : Int).toNat) = v22 then 0 else -1) = 0 then C0_773 x4 (some (.inl v10)) (some (.inl v22)) (k + 4) (n + 24) s25 o else o = (.inl (some (.inl 0)), s25)) else C0_773 x4 (some (.inl v10)) (some (.inl v22)) (k + 4) (n + 24) s25 o) else o = (.inl (some (.inl 0)), s25)))))) : C0_684 x4 d5 d6 k n σ o := by
  show Gd 0 684 [(some (.inr (.inr (some SCR)))), (some (.inr (.inr (some 0)))), (some (.inr (.inr (some 682)))), (some (.inr (.inr (some 726)))), (some (.inl x4)), d5, d6] [] σ k n o
  refine g_aload_n 685 (show op 0 684 = some (.aload_n 1, 1) by decide +kernel) rfl rfl ?_
  refine g_aload_n 686 (show op 0 685 = some (.aload_n 0, 1) by decide +kernel) rfl rfl ?_
  refine g_iload 688 (show op 0 686 = some (.iload 4, 2) by decide +kernel) rfl rfl ?_
  refine g_iconst 689 (show op 0 688 = some (.iconst 1, 1) by decide +kernel) rfl rfl ?_
  obtain ⟨g1, h⟩ := h
  refine g_iadd 690 (show op 0 689 = some (.iadd, 1) by decide +kernel) rfl g1 ?_
  obtain ⟨g2, h⟩ := h
  refine g_scr 691 (show op 0 690 = some (.iaload, 1) by decide +kernel) rfl g2 ?_
  refine g_aload_n 692 (show op 0 691 = some (.aload_n 0, 1) by decide +kernel) rfl rfl ?_
  refine g_iload 694 (show op 0 692 = some (.iload 4, 2) by decide +kernel) rfl rfl ?_
  refine g_iconst 695 (show op 0 694 = some (.iconst 2, 1) by decide +kernel) rfl rfl ?_
  obtain ⟨g3, h⟩ := h
  refine g_iadd 696 (show op 0 695 = some (.iadd, 1) by decide +kernel) rfl g3 ?_
  obtain ⟨g4, h⟩ := h
  refine g_scr 697 (show op 0 696 = some (.iaload, 1) by decide +kernel) rfl g4 ?_
  refine g_aload_n 698 (show op 0 697 = some (.aload_n 0, 1) by decide +kernel) rfl rfl ?_
  refine g_iload 700 (show op 0 698 = some (.iload 4, 2) by decide +kernel) rfl rfl ?_
  refine g_iconst 701 (show op 0 700 = some (.iconst 3, 1) by decide +kernel) rfl rfl ?_
  obtain ⟨g5, h⟩ := h
  refine g_iadd 702 (show op 0 701 = some (.iadd, 1) by decide +kernel) rfl g5 ?_
  obtain ⟨g6, h⟩ := h
  refine g_scr 703 (show op 0 702 = some (.iaload, 1) by decide +kernel) rfl g6 ?_
  refine g_aload_n 704 (show op 0 703 = some (.aload_n 0, 1) by decide +kernel) rfl rfl ?_
  refine g_iload 706 (show op 0 704 = some (.iload 4, 2) by decide +kernel) rfl rfl ?_
  refine g_iconst 707 (show op 0 706 = some (.iconst 4, 1) by decide +kernel) rfl rfl ?_
  obtain ⟨g7, h⟩ := h
  refine g_iadd 708 (show op 0 707 = some (.iadd, 1) by decide +kernel) rfl g7 ?_
  obtain ⟨g8, h⟩ := h
  refine g_scr 709 (show op 0 708 = some (.iaload, 1) by decide +kernel) rfl g8 ?_
  refine g_aload_n 710 (show op 0 709 = some (.aload_n 3, 1) by decide +kernel) rfl rfl ?_
  obtain ⟨g12, h⟩ := h
  obtain ⟨v10, s9, hD11, h⟩ := h
  refine g_call 713 [(.inl v10)] (show op 0 710 = some (.invokestatic 214, 3) by decide +kernel) (call_stL (c := 4) (s := 24) (nj := 6) (j := 396) (t := []) (as := [(.inr (.inr (some 0))), (.inl (σ SCR ((x4 + 1)).toNat)), (.inl (σ SCR ((x4 + 2)).toNat)), (.inl (σ SCR ((x4 + 3)).toNat)), (.inl (σ SCR ((x4 + 4)).toNat)), (.inr (.inr (some 726)))]) (by decide +kernel) rfl (by decide +kernel) g12 rfl rfl rfl rfl rfl) hD11 rfl ?_
  refine g_istore 715 [(some (.inr (.inr (some SCR)))), (some (.inr (.inr (some 0)))), (some (.inr (.inr (some 682)))), (some (.inr (.inr (some 726)))), (some (.inl x4)), (some (.inl v10)), d6] (show op 0 713 = some (.istore 5, 2) by decide +kernel) rfl rfl rfl ?_
  refine g_aload_n 716 (show op 0 715 = some (.aload_n 2, 1) by decide +kernel) rfl rfl ?_
  refine g_aload_n 717 (show op 0 716 = some (.aload_n 0, 1) by decide +kernel) rfl rfl ?_
  refine g_iload 719 (show op 0 717 = some (.iload 4, 2) by decide +kernel) rfl rfl ?_
  refine g_iconst 720 (show op 0 719 = some (.iconst 1, 1) by decide +kernel) rfl rfl ?_
  obtain ⟨g13, h⟩ := h
  refine g_iadd 721 (show op 0 720 = some (.iadd, 1) by decide +kernel) rfl g13 ?_
  obtain ⟨g14, h⟩ := h
  refine g_scr 722 (show op 0 721 = some (.iaload, 1) by decide +kernel) rfl g14 ?_
  refine g_aload_n 723 (show op 0 722 = some (.aload_n 0, 1) by decide +kernel) rfl rfl ?_
  refine g_iload 725 (show op 0 723 = some (.iload 4, 2) by decide +kernel) rfl rfl ?_
  refine g_iconst 726 (show op 0 725 = some (.iconst 2, 1) by decide +kernel) rfl rfl ?_
  obtain ⟨g15, h⟩ := h
  refine g_iadd 727 (show op 0 726 = some (.iadd, 1) by decide +kernel) rfl g15 ?_
  obtain ⟨g16, h⟩ := h
  refine g_scr 728 (show op 0 727 = some (.iaload, 1) by decide +kernel) rfl g16 ?_
  refine g_aload_n 729 (show op 0 728 = some (.aload_n 0, 1) by decide +kernel) rfl rfl ?_
  refine g_iload 731 (show op 0 729 = some (.iload 4, 2) by decide +kernel) rfl rfl ?_
  refine g_iconst 732 (show op 0 731 = some (.iconst 3, 1) by decide +kernel) rfl rfl ?_
  obtain ⟨g17, h⟩ := h
  refine g_iadd 733 (show op 0 732 = some (.iadd, 1) by decide +kernel) rfl g17 ?_
  obtain ⟨g18, h⟩ := h
  refine g_scr 734 (show op 0 733 = some (.iaload, 1) by decide +kernel) rfl g18 ?_
  refine g_aload_n 735 (show op 0 734 = some (.aload_n 0, 1) by decide +kernel) rfl rfl ?_
  refine g_iload 737 (show op 0 735 = some (.iload 4, 2) by decide +kernel) rfl rfl ?_
  refine g_iconst 738 (show op 0 737 = some (.iconst 4, 1) by decide +kernel) rfl rfl ?_
  obtain ⟨g19, h⟩ := h
  refine g_iadd 739 (show op 0 738 = some (.iadd, 1) by decide +kernel) rfl g19 ?_
  obtain ⟨g20, h⟩ := h
  refine g_scr 740 (show op 0 739 = some (.iaload, 1) by decide +kernel) rfl g20 ?_
  obtain ⟨g24, h⟩ := h
  obtain ⟨v22, s21, hD23, h⟩ := h
  refine g_call 743 [(.inl v22)] (show op 0 740 = some (.invokevirtual 217, 3) by decide +kernel) (call_viL (c := 0) (s := 0) (nj := 5) (j := 277) (k9 := 21) (t := []) (as := [(.inr (.inr (some 682))), (.inl (s9 SCR ((x4 + 1)).toNat)), (.inl (s9 SCR ((x4 + 2)).toNat)), (.inl (s9 SCR ((x4 + 3)).toNat)), (.inl (s9 SCR ((x4 + 4)).toNat))]) (by decide +kernel) rfl (by decide +kernel) g24 rfl rfl rfl rfl rfl rfl (by decide +kernel) (by decide +kernel)) hD23 rfl ?_
  refine g_istore 745 [(some (.inr (.inr (some SCR)))), (some (.inr (.inr (some 0)))), (some (.inr (.inr (some 682)))), (some (.inr (.inr (some 726)))), (some (.inl x4)), (some (.inl v10)), (some (.inl v22))] (show op 0 743 = some (.istore 6, 2) by decide +kernel) rfl rfl rfl ?_
  refine g_aload_n 746 (show op 0 745 = some (.aload_n 2, 1) by decide +kernel) rfl rfl ?_
  obtain ⟨g28, h⟩ := h
  obtain ⟨v26, s25, hD27, h⟩ := h
  refine g_call 749 [(.inl v26)] (show op 0 746 = some (.invokevirtual 194, 3) by decide +kernel) (call_viL (c := 0) (s := 0) (nj := 1) (j := 244) (k9 := 21) (t := []) (as := [(.inr (.inr (some 682)))]) (by decide +kernel) rfl (by decide +kernel) g28 rfl rfl rfl rfl rfl rfl (by decide +kernel) (by decide +kernel)) hD27 rfl ?_
  refine g_iload 751 (show op 0 749 = some (.iload 5, 2) by decide +kernel) rfl rfl ?_
  by_cases hc29 : v26 = v10
  · rw [if_pos hc29] at h
    refine g_icmpT 756 (show op 0 751 = some (.if_icmp .eq 5, 3) by decide +kernel) rfl (decide_eq_true hc29) ?_
    refine g_iload 758 (show op 0 756 = some (.iload 5, 2) by decide +kernel) rfl rfl ?_
    by_cases hc30 : v10 = 0
    · rw [if_pos hc30] at h
      refine g_ifF 761 773 (show op 0 758 = some (.ifCond .ne 15, 3) by decide +kernel) rfl rfl (decide_eq_false (fun h9 => h9 hc30)) ?_
      refine g_aload_n 762 (show op 0 761 = some (.aload_n 3, 1) by decide +kernel) rfl rfl ?_
      refine g_iconst 763 (show op 0 762 = some (.iconst 0, 1) by decide +kernel) rfl rfl ?_
      refine g_laload 764 1 (show op 0 763 = some (.laload, 1) by decide +kernel) rfl (by decide +kernel) (by decide) ?_
      refine g_iload 766 (show op 0 764 = some (.iload 6, 2) by decide +kernel) rfl rfl ?_
      refine g_i2l 767 (show op 0 766 = some (.i2l, 1) by decide +kernel) rfl ?_
      refine g_lcmp 768 (show op 0 767 = some (.lcmp, 1) by decide +kernel) rfl ?_
      by_cases hc31 : (if v22 < (s25 726 (0 : Int).toNat) then 1 else if (s25 726 (0 : Int).toNat) = v22 then 0 else -1) = 0
      · rw [if_pos hc31] at h
        refine g_ifT 773 (show op 0 768 = some (.ifCond .eq 5, 3) by decide +kernel) rfl (decide_eq_true hc31) ?_
        exact h
      · rw [if_neg hc31] at h
        refine g_ifF 771 773 (show op 0 768 = some (.ifCond .eq 5, 3) by decide +kernel) rfl rfl (decide_eq_false hc31) ?_
        refine g_iconst 772 (show op 0 771 = some (.iconst 0, 1) by decide +kernel) rfl rfl ?_
        exact (g_zret (show op 0 772 = some (.ireturn, 1) by decide +kernel) (by decide +kernel) (by decide) h)
    · rw [if_neg hc30] at h
      refine g_ifT 773 (show op 0 758 = some (.ifCond .ne 15, 3) by decide +kernel) rfl (decide_eq_true hc30) ?_
      exact h
  · rw [if_neg hc29] at h
    refine g_icmpF 754 756 (show op 0 751 = some (.if_icmp .eq 5, 3) by decide +kernel) rfl rfl (decide_eq_false hc29) ?_
    refine g_iconst 755 (show op 0 754 = some (.iconst 0, 1) by decide +kernel) rfl rfl ?_
    exact (g_zret (show op 0 755 = some (.ireturn, 1) by decide +kernel) (by decide +kernel) (by decide) h)
theorem b0_776 {x4 : Int} {d5 : Option AV} {d6 : Option AV} {k : Nat} {n : Nat} {σ : Sg} {o : Rs} (h : (-2147483648 ≤ (x4 + 1) ∧ (x4 + 1) ≤ 2147483647) ∧ (0 ≤ (x4 + 1) ∧ (x4 + 1) < σ (SCR + 1) 0) ∧ (-2147483648 ≤ (x4 + 2) ∧ (x4 + 2) ≤ 2147483647) ∧ (0 ≤ (x4 + 2) ∧ (x4 + 2) < σ (SCR + 1) 0) ∧ (-2147483648 ≤ (x4 + 3) ∧ (x4 + 3) ≤ 2147483647) ∧ (0 ≤ (x4 + 3) ∧ (x4 + 3) < σ (SCR + 1) 0) ∧ ((k + 3) ≤ 601024 ∧ (n + 18) ≤ 7293034) ∧ (∃ (v8 : Int) (s7 : Sg), Dd 397 [(.inr (.inr (some 0))), (.inl (σ SCR ((x4 + 1)).toNat)), (.inl (σ SCR ((x4 + 2)).toNat)), (.inl (σ SCR ((x4 + 3)).toNat)), (.inr (.inr (some 726)))] σ (.inl (some (.inl v8)), s7) ∧ (-2147483648 ≤ (x4 + 1) ∧ (x4 + 1) ≤ 2147483647) ∧ (0 ≤ (x4 + 1) ∧ (x4 + 1) < s7 (SCR + 1) 0) ∧ (-2147483648 ≤ (x4 + 2) ∧ (x4 + 2) ≤ 2147483647) ∧ (0 ≤ (x4 + 2) ∧ (x4 + 2) < s7 (SCR + 1) 0) ∧ (-2147483648 ≤ (x4 + 3) ∧ (x4 + 3) ≤ 2147483647) ∧ (0 ≤ (x4 + 3) ∧ (x4 + 3) < s7 (SCR + 1) 0) ∧ ((k + 3) ≤ 601024 ∧ (n + 18) ≤ 7293034) ∧ (∃ (v18 : Int) (s17 : Sg), Dd 278 [(.inr (.inr (some 682))), (.inl (s7 SCR ((x4 + 1)).toNat)), (.inl (s7 SCR ((x4 + 2)).toNat)), (.inl (s7 SCR ((x4 + 3)).toNat))] s7 (.inl (some (.inl v18)), s17) ∧ ((k + 3) ≤ 601024 ∧ (n + 18) ≤ 7293034) ∧ (∃ (v22 : Int) (s21 : Sg), Dd 244 [(.inr (.inr (some 682)))] s17 (.inl (some (.inl v22)), s21) ∧ (if v22 = v8 then (if v8 = 0 then (if (if v18 < (s21 726 (0 : Int).toNat) then 1 else if (s21 726 (0 : Int).toNat) = v18 then 0 else -1) = 0 then C0_853 x4 (some (.inl v8)) (some (.inl v18)) (k + 3) (n + 18) s21 o else o = (.inl (some (.inl 0)), s21)) else C0_853 x4 (some (.inl v8)) (some (.inl v18)) (k + 3) (n + 18) s21 o) else o = (.inl (some (.inl 0)), s21)))))) : C0_776 x4 d5 d6 k n σ o := by
  show Gd 0 776 [(some (.inr (.inr (some SCR)))), (some (.inr (.inr (some 0)))), (some (.inr (.inr (some 682)))), (some (.inr (.inr (some 726)))), (some (.inl x4)), d5, d6] [] σ k n o
  refine g_aload_n 777 (show op 0 776 = some (.aload_n 1, 1) by decide +kernel) rfl rfl ?_
  refine g_aload_n 778 (show op 0 777 = some (.aload_n 0, 1) by decide +kernel) rfl rfl ?_
  refine g_iload 780 (show op 0 778 = some (.iload 4, 2) by decide +kernel) rfl rfl ?_
  refine g_iconst 781 (show op 0 780 = some (.iconst 1, 1) by decide +kernel) rfl rfl ?_
  obtain ⟨g1, h⟩ := h
  refine g_iadd 782 (show op 0 781 = some (.iadd, 1) by decide +kernel) rfl g1 ?_
  obtain ⟨g2, h⟩ := h
  refine g_scr 783 (show op 0 782 = some (.iaload, 1) by decide +kernel) rfl g2 ?_
  refine g_aload_n 784 (show op 0 783 = some (.aload_n 0, 1) by decide +kernel) rfl rfl ?_
  refine g_iload 786 (show op 0 784 = some (.iload 4, 2) by decide +kernel) rfl rfl ?_
  refine g_iconst 787 (show op 0 786 = some (.iconst 2, 1) by decide +kernel) rfl rfl ?_
  obtain ⟨g3, h⟩ := h
  refine g_iadd 788 (show op 0 787 = some (.iadd, 1) by decide +kernel) rfl g3 ?_
  obtain ⟨g4, h⟩ := h
  refine g_scr 789 (show op 0 788 = some (.iaload, 1) by decide +kernel) rfl g4 ?_
  refine g_aload_n 790 (show op 0 789 = some (.aload_n 0, 1) by decide +kernel) rfl rfl ?_
  refine g_iload 792 (show op 0 790 = some (.iload 4, 2) by decide +kernel) rfl rfl ?_
  refine g_iconst 793 (show op 0 792 = some (.iconst 3, 1) by decide +kernel) rfl rfl ?_
  obtain ⟨g5, h⟩ := h
  refine g_iadd 794 (show op 0 793 = some (.iadd, 1) by decide +kernel) rfl g5 ?_
  obtain ⟨g6, h⟩ := h
  refine g_scr 795 (show op 0 794 = some (.iaload, 1) by decide +kernel) rfl g6 ?_
  refine g_aload_n 796 (show op 0 795 = some (.aload_n 3, 1) by decide +kernel) rfl rfl ?_
  obtain ⟨g10, h⟩ := h
  obtain ⟨v8, s7, hD9, h⟩ := h
  refine g_call 799 [(.inl v8)] (show op 0 796 = some (.invokestatic 218, 3) by decide +kernel) (call_stL (c := 3) (s := 18) (nj := 5) (j := 397) (t := []) (as := [(.inr (.inr (some 0))), (.inl (σ SCR ((x4 + 1)).toNat)), (.inl (σ SCR ((x4 + 2)).toNat)), (.inl (σ SCR ((x4 + 3)).toNat)), (.inr (.inr (some 726)))]) (by decide +kernel) rfl (by decide +kernel) g10 rfl rfl rfl rfl rfl) hD9 rfl ?_
  refine g_istore 801 [(some (.inr (.inr (some SCR)))), (some (.inr (.inr (some 0)))), (some (.inr (.inr (some 682)))), (some (.inr (.inr (some 726)))), (some (.inl x4)), (some (.inl v8)), d6] (show op 0 799 = some (.istore 5, 2) by decide +kernel) rfl rfl rfl ?_
  refine g_aload_n 802 (show op 0 801 = some (.aload_n 2, 1) by decide +kernel) rfl rfl ?_
  refine g_aload_n 803 (show op 0 802 = some (.aload_n 0, 1) by decide +kernel) rfl rfl ?_
  refine g_iload 805 (show op 0 803 = some (.iload 4, 2) by decide +kernel) rfl rfl ?_
  refine g_iconst 806 (show op 0 805 = some (.iconst 1, 1) by decide +kernel) rfl rfl ?_
  obtain ⟨g11, h⟩ := h
  refine g_iadd 807 (show op 0 806 = some (.iadd, 1) by decide +kernel) rfl g11 ?_
  obtain ⟨g12, h⟩ := h
  refine g_scr 808 (show op 0 807 = some (.iaload, 1) by decide +kernel) rfl g12 ?_
  refine g_aload_n 809 (show op 0 808 = some (.aload_n 0, 1) by decide +kernel) rfl rfl ?_
  refine g_iload 811 (show op 0 809 = some (.iload 4, 2) by decide +kernel) rfl rfl ?_
  refine g_iconst 812 (show op 0 811 = some (.iconst 2, 1) by decide +kernel) rfl rfl ?_
  obtain ⟨g13, h⟩ := h
  refine g_iadd 813 (show op 0 812 = some (.iadd, 1) by decide +kernel) rfl g13 ?_
  obtain ⟨g14, h⟩ := h
  refine g_scr 814 (show op 0 813 = some (.iaload, 1) by decide +kernel) rfl g14 ?_
  refine g_aload_n 815 (show op 0 814 = some (.aload_n 0, 1) by decide +kernel) rfl rfl ?_
  refine g_iload 817 (show op 0 815 = some (.iload 4, 2) by decide +kernel) rfl rfl ?_
  refine g_iconst 818 (show op 0 817 = some (.iconst 3, 1) by decide +kernel) rfl rfl ?_
  obtain ⟨g15, h⟩ := h
  refine g_iadd 819 (show op 0 818 = some (.iadd, 1) by decide +kernel) rfl g15 ?_
  obtain ⟨g16, h⟩ := h
  refine g_scr 820 (show op 0 819 = some (.iaload, 1) by decide +kernel) rfl g16 ?_
  obtain ⟨g20, h⟩ := h
  obtain ⟨v18, s17, hD19, h⟩ := h
  refine g_call 823 [(.inl v18)] (show op 0 820 = some (.invokevirtual 220, 3) by decide +kernel) (call_viL (c := 0) (s := 0) (nj := 4) (j := 278) (k9 := 21) (t := []) (as := [(.inr (.inr (some 682))), (.inl (s7 SCR ((x4 + 1)).toNat)), (.inl (s7 SCR ((x4 + 2)).toNat)), (.inl (s7 SCR ((x4 + 3)).toNat))]) (by decide +kernel) rfl (by decide +kernel) g20 rfl rfl rfl rfl rfl rfl (by decide +kernel) (by decide +kernel)) hD19 rfl ?_
  refine g_istore 825 [(some (.inr (.inr (some SCR)))), (some (.inr (.inr (some 0)))), (some (.inr (.inr (some 682)))), (some (.inr (.inr (some 726)))), (some (.inl x4)), (some (.inl v8)), (some (.inl v18))] (show op 0 823 = some (.istore 6, 2) by decide +kernel) rfl rfl rfl ?_
  refine g_aload_n 826 (show op 0 825 = some (.aload_n 2, 1) by decide +kernel) rfl rfl ?_
  obtain ⟨g24, h⟩ := h
  obtain ⟨v22, s21, hD23, h⟩ := h
  refine g_call 829 [(.inl v22)] (show op 0 826 = some (.invokevirtual 194, 3) by decide +kernel) (call_viL (c := 0) (s := 0) (nj := 1) (j := 244) (k9 := 21) (t := []) (as := [(.inr (.inr (some 682)))]) (by decide +kernel) rfl (by decide +kernel) g24 rfl rfl rfl rfl rfl rfl (by decide +kernel) (by decide +kernel)) hD23 rfl ?_
  refine g_iload 831 (show op 0 829 = some (.iload 5, 2) by decide +kernel) rfl rfl ?_
  by_cases hc25 : v22 = v8
  · rw [if_pos hc25] at h
    refine g_icmpT 836 (show op 0 831 = some (.if_icmp .eq 5, 3) by decide +kernel) rfl (decide_eq_true hc25) ?_
    refine g_iload 838 (show op 0 836 = some (.iload 5, 2) by decide +kernel) rfl rfl ?_
    by_cases hc26 : v8 = 0
    · rw [if_pos hc26] at h
      refine g_ifF 841 853 (show op 0 838 = some (.ifCond .ne 15, 3) by decide +kernel) rfl rfl (decide_eq_false (fun h9 => h9 hc26)) ?_
      refine g_aload_n 842 (show op 0 841 = some (.aload_n 3, 1) by decide +kernel) rfl rfl ?_
      refine g_iconst 843 (show op 0 842 = some (.iconst 0, 1) by decide +kernel) rfl rfl ?_
      refine g_laload 844 1 (show op 0 843 = some (.laload, 1) by decide +kernel) rfl (by decide +kernel) (by decide) ?_
      refine g_iload 846 (show op 0 844 = some (.iload 6, 2) by decide +kernel) rfl rfl ?_
      refine g_i2l 847 (show op 0 846 = some (.i2l, 1) by decide +kernel) rfl ?_
      refine g_lcmp 848 (show op 0 847 = some (.lcmp, 1) by decide +kernel) rfl ?_
      by_cases hc27 : (if v18 < (s21 726 (0 : Int).toNat) then 1 else if (s21 726 (0 : Int).toNat) = v18 then 0 else -1) = 0
      · rw [if_pos hc27] at h
        refine g_ifT 853 (show op 0 848 = some (.ifCond .eq 5, 3) by decide +kernel) rfl (decide_eq_true hc27) ?_
        exact h
      · rw [if_neg hc27] at h
        refine g_ifF 851 853 (show op 0 848 = some (.ifCond .eq 5, 3) by decide +kernel) rfl rfl (decide_eq_false hc27) ?_
        refine g_iconst 852 (show op 0 851 = some (.iconst 0, 1) by decide +kernel) rfl rfl ?_
        exact (g_zret (show op 0 852 = some (.ireturn, 1) by decide +kernel) (by decide +kernel) (by decide) h)
    · rw [if_neg hc26] at h
      refine g_ifT 853 (show op 0 838 = some (.ifCond .ne 15, 3) by decide +kernel) rfl (decide_eq_true hc26) ?_
      exact h
  · rw [if_neg hc25] at h
    refine g_icmpF 834 836 (show op 0 831 = some (.if_icmp .eq 5, 3) by decide +kernel) rfl rfl (decide_eq_false hc25) ?_
    refine g_iconst 835 (show op 0 834 = some (.iconst 0, 1) by decide +kernel) rfl rfl ?_
    exact (g_zret (show op 0 835 = some (.ireturn, 1) by decide +kernel) (by decide +kernel) (by decide) h)
theorem b0_856 {x4 : Int} {d5 : Option AV} {d6 : Option AV} {k : Nat} {n : Nat} {σ : Sg} {o : Rs} (h : (-2147483648 ≤ (x4 + 1) ∧ (x4 + 1) ≤ 2147483647) ∧ (0 ≤ (x4 + 1) ∧ (x4 + 1) < σ (SCR + 1) 0) ∧ (-2147483648 ≤ (x4 + 2) ∧ (x4 + 2) ≤ 2147483647) ∧ (0 ≤ (x4 + 2) ∧ (x4 + 2) < σ (SCR + 1) 0) ∧ ((k + 2) ≤ 601024 ∧ (n + 12) ≤ 7293034) ∧ (∃ (v6 : Int) (s5 : Sg), Dd 398 [(.inr (.inr (some 0))), (.inl (σ SCR ((x4 + 1)).toNat)), (.inl (σ SCR ((x4 + 2)).toNat)), (.inr (.inr (some 726)))] σ (.inl (some (.inl v6)), s5) ∧ (-2147483648 ≤ (x4 + 1) ∧ (x4 + 1) ≤ 2147483647) ∧ (0 ≤ (x4 + 1) ∧ (x4 + 1) < s5 (SCR + 1) 0) ∧ (-2147483648 ≤ (x4 + 2) ∧ (x4 + 2) ≤ 2147483647) ∧ (0 ≤ (x4 + 2) ∧ (x4 + 2) < s5 (SCR + 1) 0) ∧ ((k + 2) ≤ 601024 ∧ (n + 12) ≤ 7293034) ∧ (∃ (v14 : Int) (s13 : Sg), Dd 279 [(.inr (.inr (some 682))), (.inl (s5 SCR ((x4 + 1)).toNat)), (.inl (s5 SCR ((x4 + 2)).toNat))] s5 (.inl (some (.inl v14)), s13) ∧ ((k + 2) ≤ 601024 ∧ (n + 12) ≤ 7293034) ∧ (∃ (v18 : Int) (s17 : Sg), Dd 244 [(.inr (.inr (some 682)))] s13 (.inl (some (.inl v18)), s17) ∧ (if v18 = v6 then (if v6 = 0 then (if (if v14 < (s17 726 (0 : Int).toNat) then 1 else if (s17 726 (0 : Int).toNat) = v14 then 0 else -1) = 0 then C0_921 x4 (some (.inl v6)) (some (.inl v14)) (k + 2) (n + 12) s17 o else o = (.inl (some (.inl 0)), s17)) else C0_921 x4 (some (.inl v6)) (some (.inl v14)) (k + 2) (n + 12) s17 o) else o = (.inl (some (.inl 0)), s17)))))) : C0_856 x4 d5 d6 k n σ o := by
  show Gd 0 856 [(some (.inr (.inr (some SCR)))), (some (.inr (.inr (some 0)))), (some (.inr (.inr (some 682)))), (some (.inr (.inr (some 726)))), (some (.inl x4)), d5, d6] [] σ k n o
  refine g_aload_n 857 (show op 0 856 = some (.aload_n 1, 1) by decide +kernel) rfl rfl ?_
  refine g_aload_n 858 (show op 0 857 = some (.aload_n 0, 1) by decide +kernel) rfl rfl ?_
  refine g_iload 860 (show op 0 858 = some (.iload 4, 2) by decide +kernel) rfl rfl ?_
  refine g_iconst 861 (show op 0 860 = some (.iconst 1, 1) by decide +kernel) rfl rfl ?_
  obtain ⟨g1, h⟩ := h
  refine g_iadd 862 (show op 0 861 = some (.iadd, 1) by decide +kernel) rfl g1 ?_
  obtain ⟨g2, h⟩ := h
  refine g_scr 863 (show op 0 862 = some (.iaload, 1) by decide +kernel) rfl g2 ?_
  refine g_aload_n 864 (show op 0 863 = some (.aload_n 0, 1) by decide +kernel) rfl rfl ?_
  refine g_iload 866 (show op 0 864 = some (.iload 4, 2) by decide +kernel) rfl rfl ?_
  refine g_iconst 867 (show op 0 866 = some (.iconst 2, 1) by decide +kernel) rfl rfl ?_
  obtain ⟨g3, h⟩ := h
  refine g_iadd 868 (show op 0 867 = some (.iadd, 1) by decide +kernel) rfl g3 ?_
  obtain ⟨g4, h⟩ := h
  refine g_scr 869 (show op 0 868 = some (.iaload, 1) by decide +kernel) rfl g4 ?_
  refine g_aload_n 870 (show op 0 869 = some (.aload_n 3, 1) by decide +kernel) rfl rfl ?_
  obtain ⟨g8, h⟩ := h
  obtain ⟨v6, s5, hD7, h⟩ := h
  refine g_call 873 [(.inl v6)] (show op 0 870 = some (.invokestatic 221, 3) by decide +kernel) (call_stL (c := 2) (s := 12) (nj := 4) (j := 398) (t := []) (as := [(.inr (.inr (some 0))), (.inl (σ SCR ((x4 + 1)).toNat)), (.inl (σ SCR ((x4 + 2)).toNat)), (.inr (.inr (some 726)))]) (by decide +kernel) rfl (by decide +kernel) g8 rfl rfl rfl rfl rfl) hD7 rfl ?_
  refine g_istore 875 [(some (.inr (.inr (some SCR)))), (some (.inr (.inr (some 0)))), (some (.inr (.inr (some 682)))), (some (.inr (.inr (some 726)))), (some (.inl x4)), (some (.inl v6)), d6] (show op 0 873 = some (.istore 5, 2) by decide +kernel) rfl rfl rfl ?_
  refine g_aload_n 876 (show op 0 875 = some (.aload_n 2, 1) by decide +kernel) rfl rfl ?_
  refine g_aload_n 877 (show op 0 876 = some (.aload_n 0, 1) by decide +kernel) rfl rfl ?_
  refine g_iload 879 (show op 0 877 = some (.iload 4, 2) by decide +kernel) rfl rfl ?_
  refine g_iconst 880 (show op 0 879 = some (.iconst 1, 1) by decide +kernel) rfl rfl ?_
  obtain ⟨g9, h⟩ := h
  refine g_iadd 881 (show op 0 880 = some (.iadd, 1) by decide +kernel) rfl g9 ?_
  obtain ⟨g10, h⟩ := h
  refine g_scr 882 (show op 0 881 = some (.iaload, 1) by decide +kernel) rfl g10 ?_
  refine g_aload_n 883 (show op 0 882 = some (.aload_n 0, 1) by decide +kernel) rfl rfl ?_
  refine g_iload 885 (show op 0 883 = some (.iload 4, 2) by decide +kernel) rfl rfl ?_
  refine g_iconst 886 (show op 0 885 = some (.iconst 2, 1) by decide +kernel) rfl rfl ?_
  obtain ⟨g11, h⟩ := h
  refine g_iadd 887 (show op 0 886 = some (.iadd, 1) by decide +kernel) rfl g11 ?_
  obtain ⟨g12, h⟩ := h
  refine g_scr 888 (show op 0 887 = some (.iaload, 1) by decide +kernel) rfl g12 ?_
  obtain ⟨g16, h⟩ := h
  obtain ⟨v14, s13, hD15, h⟩ := h
  refine g_call 891 [(.inl v14)] (show op 0 888 = some (.invokevirtual 223, 3) by decide +kernel) (call_viL (c := 0) (s := 0) (nj := 3) (j := 279) (k9 := 21) (t := []) (as := [(.inr (.inr (some 682))), (.inl (s5 SCR ((x4 + 1)).toNat)), (.inl (s5 SCR ((x4 + 2)).toNat))]) (by decide +kernel) rfl (by decide +kernel) g16 rfl rfl rfl rfl rfl rfl (by decide +kernel) (by decide +kernel)) hD15 rfl ?_
  refine g_istore 893 [(some (.inr (.inr (some SCR)))), (some (.inr (.inr (some 0)))), (some (.inr (.inr (some 682)))), (some (.inr (.inr (some 726)))), (some (.inl x4)), (some (.inl v6)), (some (.inl v14))] (show op 0 891 = some (.istore 6, 2) by decide +kernel) rfl rfl rfl ?_
  refine g_aload_n 894 (show op 0 893 = some (.aload_n 2, 1) by decide +kernel) rfl rfl ?_
  obtain ⟨g20, h⟩ := h
  obtain ⟨v18, s17, hD19, h⟩ := h
  refine g_call 897 [(.inl v18)] (show op 0 894 = some (.invokevirtual 194, 3) by decide +kernel) (call_viL (c := 0) (s := 0) (nj := 1) (j := 244) (k9 := 21) (t := []) (as := [(.inr (.inr (some 682)))]) (by decide +kernel) rfl (by decide +kernel) g20 rfl rfl rfl rfl rfl rfl (by decide +kernel) (by decide +kernel)) hD19 rfl ?_
  refine g_iload 899 (show op 0 897 = some (.iload 5, 2) by decide +kernel) rfl rfl ?_
  by_cases hc21 : v18 = v6
  · rw [if_pos hc21] at h
    refine g_icmpT 904 (show op 0 899 = some (.if_icmp .eq 5, 3) by decide +kernel) rfl (decide_eq_true hc21) ?_
    refine g_iload 906 (show op 0 904 = some (.iload 5, 2) by decide +kernel) rfl rfl ?_
    by_cases hc22 : v6 = 0
    · rw [if_pos hc22] at h
      refine g_ifF 909 921 (show op 0 906 = some (.ifCond .ne 15, 3) by decide +kernel) rfl rfl (decide_eq_false (fun h9 => h9 hc22)) ?_
      refine g_aload_n 910 (show op 0 909 = some (.aload_n 3, 1) by decide +kernel) rfl rfl ?_
      refine g_iconst 911 (show op 0 910 = some (.iconst 0, 1) by decide +kernel) rfl rfl ?_
      refine g_laload 912 1 (show op 0 911 = some (.laload, 1) by decide +kernel) rfl (by decide +kernel) (by decide) ?_
      refine g_iload 914 (show op 0 912 = some (.iload 6, 2) by decide +kernel) rfl rfl ?_
      refine g_i2l 915 (show op 0 914 = some (.i2l, 1) by decide +kernel) rfl ?_
      refine g_lcmp 916 (show op 0 915 = some (.lcmp, 1) by decide +kernel) rfl ?_
      by_cases hc23 : (if v14 < (s17 726 (0 : Int).toNat) then 1 else if (s17 726 (0 : Int).toNat) = v14 then 0 else -1) = 0
      · rw [if_pos hc23] at h
        refine g_ifT 921 (show op 0 916 = some (.ifCond .eq 5, 3) by decide +kernel) rfl (decide_eq_true hc23) ?_
        exact h
      · rw [if_neg hc23] at h
        refine g_ifF 919 921 (show op 0 916 = some (.ifCond .eq 5, 3) by decide +kernel) rfl rfl (decide_eq_false hc23) ?_
        refine g_iconst 920 (show op 0 919 = some (.iconst 0, 1) by decide +kernel) rfl rfl ?_
        exact (g_zret (show op 0 920 = some (.ireturn, 1) by decide +kernel) (by decide +kernel) (by decide) h)
    · rw [if_neg hc22] at h
      refine g_ifT 921 (show op 0 906 = some (.ifCond .ne 15, 3) by decide +kernel) rfl (decide_eq_true hc22) ?_
      exact h
  · rw [if_neg hc21] at h
    refine g_icmpF 902 904 (show op 0 899 = some (.if_icmp .eq 5, 3) by decide +kernel) rfl rfl (decide_eq_false hc21) ?_
    refine g_iconst 903 (show op 0 902 = some (.iconst 0, 1) by decide +kernel) rfl rfl ?_
    exact (g_zret (show op 0 903 = some (.ireturn, 1) by decide +kernel) (by decide +kernel) (by decide) h)
theorem b0_924 {x4 : Int} {d5 : Option AV} {d6 : Option AV} {k : Nat} {n : Nat} {σ : Sg} {o : Rs} (h : (-2147483648 ≤ (x4 + 1) ∧ (x4 + 1) ≤ 2147483647) ∧ (0 ≤ (x4 + 1) ∧ (x4 + 1) < σ (SCR + 1) 0) ∧ (-2147483648 ≤ (x4 + 2) ∧ (x4 + 2) ≤ 2147483647) ∧ (0 ≤ (x4 + 2) ∧ (x4 + 2) < σ (SCR + 1) 0) ∧ (-2147483648 ≤ (x4 + 3) ∧ (x4 + 3) ≤ 2147483647) ∧ (0 ≤ (x4 + 3) ∧ (x4 + 3) < σ (SCR + 1) 0) ∧ ((k + 4) ≤ 601024 ∧ (n + 24) ≤ 7293034) ∧ (∃ (v8 : Int) (s7 : Sg), Dd 399 [(.inr (.inr (some 0))), (.inl (σ SCR ((x4 + 1)).toNat)), (.inl (σ SCR ((x4 + 2)).toNat)), (.inl (σ SCR ((x4 + 3)).toNat)), (.inr (.inr (some 726)))] σ (.inl (some (.inl v8)), s7) ∧ (-2147483648 ≤ (x4 + 1) ∧ (x4 + 1) ≤ 2147483647) ∧ (0 ≤ (x4 + 1) ∧ (x4 + 1) < s7 (SCR + 1) 0) ∧ (-2147483648 ≤ (x4 + 2) ∧ (x4 + 2) ≤ 2147483647) ∧ (0 ≤ (x4 + 2) ∧ (x4 + 2) < s7 (SCR + 1) 0) ∧ (-2147483648 ≤ (x4 + 3) ∧ (x4 + 3) ≤ 2147483647) ∧ (0 ≤ (x4 + 3) ∧ (x4 + 3) < s7 (SCR + 1) 0) ∧ ((k + 4) ≤ 601024 ∧ (n + 24) ≤ 7293034) ∧ (∃ (v18 : Int) (s17 : Sg), Dd 299 [(.inr (.inr (some 682))), (.inl (s7 SCR ((x4 + 1)).toNat)), (.inl (s7 SCR ((x4 + 2)).toNat)), (.inl (s7 SCR ((x4 + 3)).toNat))] s7 (.inl (some (.inl v18)), s17) ∧ ((k + 4) ≤ 601024 ∧ (n + 24) ≤ 7293034) ∧ (∃ (v22 : Int) (s21 : Sg), Dd 244 [(.inr (.inr (some 682)))] s17 (.inl (some (.inl v22)), s21) ∧ (if v22 = v8 then (if v8 = 0 then (if (if v18 < (s21 726 (0 : Int).toNat) then 1 else if (s21 726 (0 : Int).toNat) = v18 then 0 else -1) = 0 then C0_1001 x4 (some (.inl v8)) (some (.inl v18)) (k + 4) (n + 24) s21 o else o = (.inl (some (.inl 0)), s21)) else C0_1001 x4 (some (.inl v8)) (some (.inl v18)) (k + 4) (n + 24) s21 o) else o = (.inl (some (.inl 0)), s21)))))) : C0_924 x4 d5 d6 k n σ o := by
  show Gd 0 924 [(some (.inr (.inr (some SCR)))), (some (.inr (.inr (some 0)))), (some (.inr (.inr (some 682)))), (some (.inr (.inr (some 726)))), (some (.inl x4)), d5, d6] [] σ k n o
  refine g_aload_n 925 (show op 0 924 = some (.aload_n 1, 1) by decide +kernel) rfl rfl ?_
  refine g_aload_n 926 (show op 0 925 = some (.aload_n 0, 1) by decide +kernel) rfl rfl ?_
  refine g_iload 928 (show op 0 926 = some (.iload 4, 2) by decide +kernel) rfl rfl ?_
  refine g_iconst 929 (show op 0 928 = some (.iconst 1, 1) by decide +kernel) rfl rfl ?_
  obtain ⟨g1, h⟩ := h
  refine g_iadd 930 (show op 0 929 = some (.iadd, 1) by decide +kernel) rfl g1 ?_
  obtain ⟨g2, h⟩ := h
  refine g_scr 931 (show op 0 930 = some (.iaload, 1) by decide +kernel) rfl g2 ?_
  refine g_aload_n 932 (show op 0 931 = some (.aload_n 0, 1) by decide +kernel) rfl rfl ?_
  refine g_iload 934 (show op 0 932 = some (.iload 4, 2) by decide +kernel) rfl rfl ?_
  refine g_iconst 935 (show op 0 934 = some (.iconst 2, 1) by decide +kernel) rfl rfl ?_
  obtain ⟨g3, h⟩ := h
  refine g_iadd 936 (show op 0 935 = some (.iadd, 1) by decide +kernel) rfl g3 ?_
  obtain ⟨g4, h⟩ := h
  refine g_scr 937 (show op 0 936 = some (.iaload, 1) by decide +kernel) rfl g4 ?_
  refine g_aload_n 938 (show op 0 937 = some (.aload_n 0, 1) by decide +kernel) rfl rfl ?_
  refine g_iload 940 (show op 0 938 = some (.iload 4, 2) by decide +kernel) rfl rfl ?_
  refine g_iconst 941 (show op 0 940 = some (.iconst 3, 1) by decide +kernel) rfl rfl ?_
  obtain ⟨g5, h⟩ := h
  refine g_iadd 942 (show op 0 941 = some (.iadd, 1) by decide +kernel) rfl g5 ?_
  obtain ⟨g6, h⟩ := h
  refine g_scr 943 (show op 0 942 = some (.iaload, 1) by decide +kernel) rfl g6 ?_
  refine g_aload_n 944 (show op 0 943 = some (.aload_n 3, 1) by decide +kernel) rfl rfl ?_
  obtain ⟨g10, h⟩ := h
  obtain ⟨v8, s7, hD9, h⟩ := h
  refine g_call 947 [(.inl v8)] (show op 0 944 = some (.invokestatic 224, 3) by decide +kernel) (call_stL (c := 4) (s := 24) (nj := 5) (j := 399) (t := []) (as := [(.inr (.inr (some 0))), (.inl (σ SCR ((x4 + 1)).toNat)), (.inl (σ SCR ((x4 + 2)).toNat)), (.inl (σ SCR ((x4 + 3)).toNat)), (.inr (.inr (some 726)))]) (by decide +kernel) rfl (by decide +kernel) g10 rfl rfl rfl rfl rfl) hD9 rfl ?_
  refine g_istore 949 [(some (.inr (.inr (some SCR)))), (some (.inr (.inr (some 0)))), (some (.inr (.inr (some 682)))), (some (.inr (.inr (some 726)))), (some (.inl x4)), (some (.inl v8)), d6] (show op 0 947 = some (.istore 5, 2) by decide +kernel) rfl rfl rfl ?_
  refine g_aload_n 950 (show op 0 949 = some (.aload_n 2, 1) by decide +kernel) rfl rfl ?_
  refine g_aload_n 951 (show op 0 950 = some (.aload_n 0, 1) by decide +kernel) rfl rfl ?_
  refine g_iload 953 (show op 0 951 = some (.iload 4, 2) by decide +kernel) rfl rfl ?_
  refine g_iconst 954 (show op 0 953 = some (.iconst 1, 1) by decide +kernel) rfl rfl ?_
  obtain ⟨g11, h⟩ := h
  refine g_iadd 955 (show op 0 954 = some (.iadd, 1) by decide +kernel) rfl g11 ?_
  obtain ⟨g12, h⟩ := h
  refine g_scr 956 (show op 0 955 = some (.iaload, 1) by decide +kernel) rfl g12 ?_
  refine g_aload_n 957 (show op 0 956 = some (.aload_n 0, 1) by decide +kernel) rfl rfl ?_
  refine g_iload 959 (show op 0 957 = some (.iload 4, 2) by decide +kernel) rfl rfl ?_
  refine g_iconst 960 (show op 0 959 = some (.iconst 2, 1) by decide +kernel) rfl rfl ?_
  obtain ⟨g13, h⟩ := h
  refine g_iadd 961 (show op 0 960 = some (.iadd, 1) by decide +kernel) rfl g13 ?_
  obtain ⟨g14, h⟩ := h
  refine g_scr 962 (show op 0 961 = some (.iaload, 1) by decide +kernel) rfl g14 ?_
  refine g_aload_n 963 (show op 0 962 = some (.aload_n 0, 1) by decide +kernel) rfl rfl ?_
  refine g_iload 965 (show op 0 963 = some (.iload 4, 2) by decide +kernel) rfl rfl ?_
  refine g_iconst 966 (show op 0 965 = some (.iconst 3, 1) by decide +kernel) rfl rfl ?_
  obtain ⟨g15, h⟩ := h
  refine g_iadd 967 (show op 0 966 = some (.iadd, 1) by decide +kernel) rfl g15 ?_
  obtain ⟨g16, h⟩ := h
  refine g_scr 968 (show op 0 967 = some (.iaload, 1) by decide +kernel) rfl g16 ?_
  obtain ⟨g20, h⟩ := h
  obtain ⟨v18, s17, hD19, h⟩ := h
  refine g_call 971 [(.inl v18)] (show op 0 968 = some (.invokevirtual 226, 3) by decide +kernel) (call_viL (c := 0) (s := 0) (nj := 4) (j := 299) (k9 := 21) (t := []) (as := [(.inr (.inr (some 682))), (.inl (s7 SCR ((x4 + 1)).toNat)), (.inl (s7 SCR ((x4 + 2)).toNat)), (.inl (s7 SCR ((x4 + 3)).toNat))]) (by decide +kernel) rfl (by decide +kernel) g20 rfl rfl rfl rfl rfl rfl (by decide +kernel) (by decide +kernel)) hD19 rfl ?_
  refine g_istore 973 [(some (.inr (.inr (some SCR)))), (some (.inr (.inr (some 0)))), (some (.inr (.inr (some 682)))), (some (.inr (.inr (some 726)))), (some (.inl x4)), (some (.inl v8)), (some (.inl v18))] (show op 0 971 = some (.istore 6, 2) by decide +kernel) rfl rfl rfl ?_
  refine g_aload_n 974 (show op 0 973 = some (.aload_n 2, 1) by decide +kernel) rfl rfl ?_
  obtain ⟨g24, h⟩ := h
  obtain ⟨v22, s21, hD23, h⟩ := h
  refine g_call 977 [(.inl v22)] (show op 0 974 = some (.invokevirtual 194, 3) by decide +kernel) (call_viL (c := 0) (s := 0) (nj := 1) (j := 244) (k9 := 21) (t := []) (as := [(.inr (.inr (some 682)))]) (by decide +kernel) rfl (by decide +kernel) g24 rfl rfl rfl rfl rfl rfl (by decide +kernel) (by decide +kernel)) hD23 rfl ?_
  refine g_iload 979 (show op 0 977 = some (.iload 5, 2) by decide +kernel) rfl rfl ?_
  by_cases hc25 : v22 = v8
  · rw [if_pos hc25] at h
    refine g_icmpT 984 (show op 0 979 = some (.if_icmp .eq 5, 3) by decide +kernel) rfl (decide_eq_true hc25) ?_
    refine g_iload 986 (show op 0 984 = some (.iload 5, 2) by decide +kernel) rfl rfl ?_
    by_cases hc26 : v8 = 0
    · rw [if_pos hc26] at h
      refine g_ifF 989 1001 (show op 0 986 = some (.ifCond .ne 15, 3) by decide +kernel) rfl rfl (decide_eq_false (fun h9 => h9 hc26)) ?_
      refine g_aload_n 990 (show op 0 989 = some (.aload_n 3, 1) by decide +kernel) rfl rfl ?_
      refine g_iconst 991 (show op 0 990 = some (.iconst 0, 1) by decide +kernel) rfl rfl ?_
      refine g_laload 992 1 (show op 0 991 = some (.laload, 1) by decide +kernel) rfl (by decide +kernel) (by decide) ?_
      refine g_iload 994 (show op 0 992 = some (.iload 6, 2) by decide +kernel) rfl rfl ?_
      refine g_i2l 995 (show op 0 994 = some (.i2l, 1) by decide +kernel) rfl ?_
      refine g_lcmp 996 (show op 0 995 = some (.lcmp, 1) by decide +kernel) rfl ?_
      by_cases hc27 : (if v18 < (s21 726 (0 : Int).toNat) then 1 else if (s21 726 (0 : Int).toNat) = v18 then 0 else -1) = 0
      · rw [if_pos hc27] at h
        refine g_ifT 1001 (show op 0 996 = some (.ifCond .eq 5, 3) by decide +kernel) rfl (decide_eq_true hc27) ?_
        exact h
      · rw [if_neg hc27] at h
        refine g_ifF 999 1001 (show op 0 996 = some (.ifCond .eq 5, 3) by decide +kernel) rfl rfl (decide_eq_false hc27) ?_
        refine g_iconst 1000 (show op 0 999 = some (.iconst 0, 1) by decide +kernel) rfl rfl ?_
        exact (g_zret (show op 0 1000 = some (.ireturn, 1) by decide +kernel) (by decide +kernel) (by decide) h)
    · rw [if_neg hc26] at h
      refine g_ifT 1001 (show op 0 986 = some (.ifCond .ne 15, 3) by decide +kernel) rfl (decide_eq_true hc26) ?_
      exact h
  · rw [if_neg hc25] at h
    refine g_icmpF 982 984 (show op 0 979 = some (.if_icmp .eq 5, 3) by decide +kernel) rfl rfl (decide_eq_false hc25) ?_
    refine g_iconst 983 (show op 0 982 = some (.iconst 0, 1) by decide +kernel) rfl rfl ?_
    exact (g_zret (show op 0 983 = some (.ireturn, 1) by decide +kernel) (by decide +kernel) (by decide) h)
theorem b0_1004 {x4 : Int} {d5 : Option AV} {d6 : Option AV} {k : Nat} {n : Nat} {σ : Sg} {o : Rs} (h : (-2147483648 ≤ (x4 + 1) ∧ (x4 + 1) ≤ 2147483647) ∧ (0 ≤ (x4 + 1) ∧ (x4 + 1) < σ (SCR + 1) 0) ∧ ((k + 2) ≤ 601024 ∧ (n + 12) ≤ 7293034) ∧ (∃ (v4 : Int) (s3 : Sg), Dd 400 [(.inr (.inr (some 0))), (.inl (σ SCR ((x4 + 1)).toNat)), (.inr (.inr (some 726)))] σ (.inl (some (.inl v4)), s3) ∧ (-2147483648 ≤ (x4 + 1) ∧ (x4 + 1) ≤ 2147483647) ∧ (0 ≤ (x4 + 1) ∧ (x4 + 1) < s3 (SCR + 1) 0) ∧ ((k + 2) ≤ 601024 ∧ (n + 12) ≤ 7293034) ∧ (∃ (v10 : Int) (s9 : Sg), Dd 300 [(.inr (.inr (some 682))), (.inl (s3 SCR ((x4 + 1)).toNat))] s3 (.inl (some (.inl v10)), s9) ∧ ((k + 2) ≤ 601024 ∧ (n + 12) ≤ 7293034) ∧ (∃ (v14 : Int) (s13 : Sg), Dd 244 [(.inr (.inr (some 682)))] s9 (.inl (some (.inl v14)), s13) ∧ (if v14 = v4 then (if v4 = 0 then (if (if v10 < (s13 726 (0 : Int).toNat) then 1 else if (s13 726 (0 : Int).toNat) = v10 then 0 else -1) = 0 then C0_1057 x4 (some (.inl v4)) (some (.inl v10)) (k + 2) (n + 12) s13 o else o = (.inl (some (.inl 0)), s13)) else C0_1057 x4 (some (.inl v4)) (some (.inl v10)) (k + 2) (n + 12) s13 o) else o = (.inl (some (.inl 0)), s13)))))) : C0_1004 x4 d5 d6 k n σ o := by
  show Gd 0 1004 [(some (.inr (.inr (some SCR)))), (some (.inr (.inr (some 0)))), (some (.inr (.inr (some 682)))), (some (.inr (.inr (some 726)))), (some (.inl x4)), d5, d6] [] σ k n o
  refine g_aload_n 1005 (show op 0 1004 = some (.aload_n 1, 1) by decide +kernel) rfl rfl ?_
  refine g_aload_n 1006 (show op 0 1005 = some (.aload_n 0, 1) by decide +kernel) rfl rfl ?_
  refine g_iload 1008 (show op 0 1006 = some (.iload 4, 2) by decide +kernel) rfl rfl ?_
  refine g_iconst 1009 (show op 0 1008 = some (.iconst 1, 1) by decide +kernel) rfl rfl ?_
  obtain ⟨g1, h⟩ := h
  refine g_iadd 1010 (show op 0 1009 = some (.iadd, 1) by decide +kernel) rfl g1 ?_
  obtain ⟨g2, h⟩ := h
  refine g_scr 1011 (show op 0 1010 = some (.iaload, 1) by decide +kernel) rfl g2 ?_
  refine g_aload_n 1012 (show op 0 1011 = some (.aload_n 3, 1) by decide +kernel) rfl rfl ?_
  obtain ⟨g6, h⟩ := h
  obtain ⟨v4, s3, hD5, h⟩ := h
  refine g_call 1015 [(.inl v4)] (show op 0 1012 = some (.invokestatic 227, 3) by decide +kernel) (call_stL (c := 2) (s := 12) (nj := 3) (j := 400) (t := []) (as := [(.inr (.inr (some 0))), (.inl (σ SCR ((x4 + 1)).toNat)), (.inr (.inr (some 726)))]) (by decide +kernel) rfl (by decide +kernel) g6 rfl rfl rfl rfl rfl) hD5 rfl ?_
  refine g_istore 1017 [(some (.inr (.inr (some SCR)))), (some (.inr (.inr (some 0)))), (some (.inr (.inr (some 682)))), (some (.inr (.inr (some 726)))), (some (.inl x4)), (some (.inl v4)), d6] (show op 0 1015 = some (.istore 5, 2) by decide +kernel) rfl rfl rfl ?_
  refine g_aload_n 1018 (show op 0 1017 = some (.aload_n 2, 1) by decide +kernel) rfl rfl ?_
  refine g_aload_n 1019 (show op 0 1018 = some (.aload_n 0, 1) by decide +kernel) rfl rfl ?_
  refine g_iload 1021 (show op 0 1019 = some (.iload 4, 2) by decide +kernel) rfl rfl ?_
  refine g_iconst 1022 (show op 0 1021 = some (.iconst 1, 1) by decide +kernel) rfl rfl ?_
  obtain ⟨g7, h⟩ := h
  refine g_iadd 1023 (show op 0 1022 = some (.iadd, 1) by decide +kernel) rfl g7 ?_
  obtain ⟨g8, h⟩ := h
  refine g_scr 1024 (show op 0 1023 = some (.iaload, 1) by decide +kernel) rfl g8 ?_
  obtain ⟨g12, h⟩ := h
  obtain ⟨v10, s9, hD11, h⟩ := h
  refine g_call 1027 [(.inl v10)] (show op 0 1024 = some (.invokevirtual 229, 3) by decide +kernel) (call_viL (c := 0) (s := 0) (nj := 2) (j := 300) (k9 := 21) (t := []) (as := [(.inr (.inr (some 682))), (.inl (s3 SCR ((x4 + 1)).toNat))]) (by decide +kernel) rfl (by decide +kernel) g12 rfl rfl rfl rfl rfl rfl (by decide +kernel) (by decide +kernel)) hD11 rfl ?_
  refine g_istore 1029 [(some (.inr (.inr (some SCR)))), (some (.inr (.inr (some 0)))), (some (.inr (.inr (some 682)))), (some (.inr (.inr (some 726)))), (some (.inl x4)), (some (.inl v4)), (some (.inl v10))] (show op 0 1027 = some (.istore 6, 2) by decide +kernel) rfl rfl rfl ?_
  refine g_aload_n 1030 (show op 0 1029 = some (.aload_n 2, 1) by decide +kernel) rfl rfl ?_
  obtain ⟨g16, h⟩ := h
  obtain ⟨v14, s13, hD15, h⟩ := h
  refine g_call 1033 [(.inl v14)] (show op 0 1030 = some (.invokevirtual 194, 3) by decide +kernel) (call_viL (c := 0) (s := 0) (nj := 1) (j := 244) (k9 := 21) (t := []) (as := [(.inr (.inr (some 682)))]) (by decide +kernel) rfl (by decide +kernel) g16 rfl rfl rfl rfl rfl rfl (by decide +kernel) (by decide +kernel)) hD15 rfl ?_
  refine g_iload 1035 (show op 0 1033 = some (.iload 5, 2) by decide +kernel) rfl rfl ?_
  by_cases hc17 : v14 = v4
  · rw [if_pos hc17] at h
    refine g_icmpT 1040 (show op 0 1035 = some (.if_icmp .eq 5, 3) by decide +kernel) rfl (decide_eq_true hc17) ?_
    refine g_iload 1042 (show op 0 1040 = some (.iload 5, 2) by decide +kernel) rfl rfl ?_
    by_cases hc18 : v4 = 0
    · rw [if_pos hc18] at h
      refine g_ifF 1045 1057 (show op 0 1042 = some (.ifCond .ne 15, 3) by decide +kernel) rfl rfl (decide_eq_false (fun h9 => h9 hc18)) ?_
      refine g_aload_n 1046 (show op 0 1045 = some (.aload_n 3, 1) by decide +kernel) rfl rfl ?_
      refine g_iconst 1047 (show op 0 1046 = some (.iconst 0, 1) by decide +kernel) rfl rfl ?_
      refine g_laload 1048 1 (show op 0 1047 = some (.laload, 1) by decide +kernel) rfl (by decide +kernel) (by decide) ?_
      refine g_iload 1050 (show op 0 1048 = some (.iload 6, 2) by decide +kernel) rfl rfl ?_
      refine g_i2l 1051 (show op 0 1050 = some (.i2l, 1) by decide +kernel) rfl ?_
      refine g_lcmp 1052 (show op 0 1051 = some (.lcmp, 1) by decide +kernel) rfl ?_
      by_cases hc19 : (if v10 < (s13 726 (0 : Int).toNat) then 1 else if (s13 726 (0 : Int).toNat) = v10 then 0 else -1) = 0
      · rw [if_pos hc19] at h
        refine g_ifT 1057 (show op 0 1052 = some (.ifCond .eq 5, 3) by decide +kernel) rfl (decide_eq_true hc19) ?_
        exact h
      · rw [if_neg hc19] at h
        refine g_ifF 1055 1057 (show op 0 1052 = some (.ifCond .eq 5, 3) by decide +kernel) rfl rfl (decide_eq_false hc19) ?_
        refine g_iconst 1056 (show op 0 1055 = some (.iconst 0, 1) by decide +kernel) rfl rfl ?_
        exact (g_zret (show op 0 1056 = some (.ireturn, 1) by decide +kernel) (by decide +kernel) (by decide) h)
    · rw [if_neg hc18] at h
      refine g_ifT 1057 (show op 0 1042 = some (.ifCond .ne 15, 3) by decide +kernel) rfl (decide_eq_true hc18) ?_
      exact h
  · rw [if_neg hc17] at h
    refine g_icmpF 1038 1040 (show op 0 1035 = some (.if_icmp .eq 5, 3) by decide +kernel) rfl rfl (decide_eq_false hc17) ?_
    refine g_iconst 1039 (show op 0 1038 = some (.iconst 0, 1) by decide +kernel) rfl rfl ?_
    exact (g_zret (show op 0 1039 = some (.ireturn, 1) by decide +kernel) (by decide +kernel) (by decide) h)
theorem b0_1060 {x4 : Int} {d5 : Option AV} {d6 : Option AV} {k : Nat} {n : Nat} {σ : Sg} {o : Rs} (h : (-2147483648 ≤ (x4 + 1) ∧ (x4 + 1) ≤ 2147483647) ∧ (0 ≤ (x4 + 1) ∧ (x4 + 1) < σ (SCR + 1) 0) ∧ (-2147483648 ≤ (x4 + 2) ∧ (x4 + 2) ≤ 2147483647) ∧ (0 ≤ (x4 + 2) ∧ (x4 + 2) < σ (SCR + 1) 0) ∧ ((k + 4) ≤ 601024 ∧ (n + 24) ≤ 7293034) ∧ (∃ (v6 : Int) (s5 : Sg), Dd 401 [(.inr (.inr (some 0))), (.inl (σ SCR ((x4 + 1)).toNat)), (.inl (σ SCR ((x4 + 2)).toNat)), (.inr (.inr (some 726)))] σ (.inl (some (.inl v6)), s5) ∧ (-2147483648 ≤ (x4 + 1) ∧ (x4 + 1) ≤ 2147483647) ∧ (0 ≤ (x4 + 1) ∧ (x4 + 1) < s5 (SCR + 1) 0) ∧ (-2147483648 ≤ (x4 + 2) ∧ (x4 + 2) ≤ 2147483647) ∧ (0 ≤ (x4 + 2) ∧ (x4 + 2) < s5 (SCR + 1) 0) ∧ ((k + 4) ≤ 601024 ∧ (n + 24) ≤ 7293034) ∧ (∃ (v14 : Int) (s13 : Sg), Dd 301 [(.inr (.inr (some 682))), (.inl (s5 SCR ((x4 + 1)).toNat)), (.inl (s5 SCR ((x4 + 2)).toNat))] s5 (.inl (some (.inl v14)), s13) ∧ ((k + 4) ≤ 601024 ∧ (n + 24) ≤ 7293034) ∧ (∃ (v18 : Int) (s17 : Sg), Dd 244 [(.inr (.inr (some 682)))] s13 (.inl (some (.inl v18)), s17) ∧ (if v18 = v6 then (if v6 = 0 then (if (if v14 < (s17 726 (0 : Int).toNat) then 1 else if (s17 726 (0 : Int).toNat) = v14 then 0 else -1) = 0 then C0_1125 x4 (some (.inl v6)) (some (.inl v14)) (k + 4) (n + 24) s17 o else o = (.inl (some (.inl 0)), s17)) else C0_1125 x4 (some (.inl v6)) (some (.inl v14)) (k + 4) (n + 24) s17 o) else o = (.inl (some (.inl 0)), s17)))))) : C0_1060 x4 d5 d6 k n σ o := by
  show Gd 0 1060 [(some (.inr (.inr (some SCR)))), (some (.inr (.inr (some 0)))), (some (.inr (.inr (some 682)))), (some (.inr (.inr (some 726)))), (some (.inl x4)), d5, d6] [] σ k n o
  refine g_aload_n 1061 (show op 0 1060 = some (.aload_n 1, 1) by decide +kernel) rfl rfl ?_
  refine g_aload_n 1062 (show op 0 1061 = some (.aload_n 0, 1) by decide +kernel) rfl rfl ?_
  refine g_iload 1064 (show op 0 1062 = some (.iload 4, 2) by decide +kernel) rfl rfl ?_
  refine g_iconst 1065 (show op 0 1064 = some (.iconst 1, 1) by decide +kernel) rfl rfl ?_
  obtain ⟨g1, h⟩ := h
  refine g_iadd 1066 (show op 0 1065 = some (.iadd, 1) by decide +kernel) rfl g1 ?_
  obtain ⟨g2, h⟩ := h
  refine g_scr 1067 (show op 0 1066 = some (.iaload, 1) by decide +kernel) rfl g2 ?_
  refine g_aload_n 1068 (show op 0 1067 = some (.aload_n 0, 1) by decide +kernel) rfl rfl ?_
  refine g_iload 1070 (show op 0 1068 = some (.iload 4, 2) by decide +kernel) rfl rfl ?_
  refine g_iconst 1071 (show op 0 1070 = some (.iconst 2, 1) by decide +kernel) rfl rfl ?_
  obtain ⟨g3, h⟩ := h
  refine g_iadd 1072 (show op 0 1071 = some (.iadd, 1) by decide +kernel) rfl g3 ?_
  obtain ⟨g4, h⟩ := h
  refine g_scr 1073 (show op 0 1072 = some (.iaload, 1) by decide +kernel) rfl g4 ?_
  refine g_aload_n 1074 (show op 0 1073 = some (.aload_n 3, 1) by decide +kernel) rfl rfl ?_
  obtain ⟨g8, h⟩ := h
  obtain ⟨v6, s5, hD7, h⟩ := h
  refine g_call 1077 [(.inl v6)] (show op 0 1074 = some (.invokestatic 230, 3) by decide +kernel) (call_stL (c := 4) (s := 24) (nj := 4) (j := 401) (t := []) (as := [(.inr (.inr (some 0))), (.inl (σ SCR ((x4 + 1)).toNat)), (.inl (σ SCR ((x4 + 2)).toNat)), (.inr (.inr (some 726)))]) (by decide +kernel) rfl (by decide +kernel) g8 rfl rfl rfl rfl rfl) hD7 rfl ?_
  refine g_istore 1079 [(some (.inr (.inr (some SCR)))), (some (.inr (.inr (some 0)))), (some (.inr (.inr (some 682)))), (some (.inr (.inr (some 726)))), (some (.inl x4)), (some (.inl v6)), d6] (show op 0 1077 = some (.istore 5, 2) by decide +kernel) rfl rfl rfl ?_
  refine g_aload_n 1080 (show op 0 1079 = some (.aload_n 2, 1) by decide +kernel) rfl rfl ?_
  refine g_aload_n 1081 (show op 0 1080 = some (.aload_n 0, 1) by decide +kernel) rfl rfl ?_
  refine g_iload 1083 (show op 0 1081 = some (.iload 4, 2) by decide +kernel) rfl rfl ?_
  refine g_iconst 1084 (show op 0 1083 = some (.iconst 1, 1) by decide +kernel) rfl rfl ?_
  obtain ⟨g9, h⟩ := h
  refine g_iadd 1085 (show op 0 1084 = some (.iadd, 1) by decide +kernel) rfl g9 ?_
  obtain ⟨g10, h⟩ := h
  refine g_scr 1086 (show op 0 1085 = some (.iaload, 1) by decide +kernel) rfl g10 ?_
  refine g_aload_n 1087 (show op 0 1086 = some (.aload_n 0, 1) by decide +kernel) rfl rfl ?_
  refine g_iload 1089 (show op 0 1087 = some (.iload 4, 2) by decide +kernel) rfl rfl ?_
  refine g_iconst 1090 (show op 0 1089 = some (.iconst 2, 1) by decide +kernel) rfl rfl ?_
  obtain ⟨g11, h⟩ := h
  refine g_iadd 1091 (show op 0 1090 = some (.iadd, 1) by decide +kernel) rfl g11 ?_
  obtain ⟨g12, h⟩ := h
  refine g_scr 1092 (show op 0 1091 = some (.iaload, 1) by decide +kernel) rfl g12 ?_
  obtain ⟨g16, h⟩ := h
  obtain ⟨v14, s13, hD15, h⟩ := h
  refine g_call 1095 [(.inl v14)] (show op 0 1092 = some (.invokevirtual 232, 3) by decide +kernel) (call_viL (c := 0) (s := 0) (nj := 3) (j := 301) (k9 := 21) (t := []) (as := [(.inr (.inr (some 682))), (.inl (s5 SCR ((x4 + 1)).toNat)), (.inl (s5 SCR ((x4 + 2)).toNat))]) (by decide +kernel) rfl (by decide +kernel) g16 rfl rfl rfl rfl rfl rfl (by decide +kernel) (by decide +kernel)) hD15 rfl ?_
  refine g_istore 1097 [(some (.inr (.inr (some SCR)))), (some (.inr (.inr (some 0)))), (some (.inr (.inr (some 682)))), (some (.inr (.inr (some 726)))), (some (.inl x4)), (some (.inl v6)), (some (.inl v14))] (show op 0 1095 = some (.istore 6, 2) by decide +kernel) rfl rfl rfl ?_
  refine g_aload_n 1098 (show op 0 1097 = some (.aload_n 2, 1) by decide +kernel) rfl rfl ?_
  obtain ⟨g20, h⟩ := h
  obtain ⟨v18, s17, hD19, h⟩ := h
  refine g_call 1101 [(.inl v18)] (show op 0 1098 = some (.invokevirtual 194, 3) by decide +kernel) (call_viL (c := 0) (s := 0) (nj := 1) (j := 244) (k9 := 21) (t := []) (as := [(.inr (.inr (some 682)))]) (by decide +kernel) rfl (by decide +kernel) g20 rfl rfl rfl rfl rfl rfl (by decide +kernel) (by decide +kernel)) hD19 rfl ?_
  refine g_iload 1103 (show op 0 1101 = some (.iload 5, 2) by decide +kernel) rfl rfl ?_
  by_cases hc21 : v18 = v6
  · rw [if_pos hc21] at h
    refine g_icmpT 1108 (show op 0 1103 = some (.if_icmp .eq 5, 3) by decide +kernel) rfl (decide_eq_true hc21) ?_
    refine g_iload 1110 (show op 0 1108 = some (.iload 5, 2) by decide +kernel) rfl rfl ?_
    by_cases hc22 : v6 = 0
    · rw [if_pos hc22] at h
      refine g_ifF 1113 1125 (show op 0 1110 = some (.ifCond .ne 15, 3) by decide +kernel) rfl rfl (decide_eq_false (fun h9 => h9 hc22)) ?_
      refine g_aload_n 1114 (show op 0 1113 = some (.aload_n 3, 1) by decide +kernel) rfl rfl ?_
      refine g_iconst 1115 (show op 0 1114 = some (.iconst 0, 1) by decide +kernel) rfl rfl ?_
      refine g_laload 1116 1 (show op 0 1115 = some (.laload, 1) by decide +kernel) rfl (by decide +kernel) (by decide) ?_
      refine g_iload 1118 (show op 0 1116 = some (.iload 6, 2) by decide +kernel) rfl rfl ?_
      refine g_i2l 1119 (show op 0 1118 = some (.i2l, 1) by decide +kernel) rfl ?_
      refine g_lcmp 1120 (show op 0 1119 = some (.lcmp, 1) by decide +kernel) rfl ?_
      by_cases hc23 : (if v14 < (s17 726 (0 : Int).toNat) then 1 else if (s17 726 (0 : Int).toNat) = v14 then 0 else -1) = 0
      · rw [if_pos hc23] at h
        refine g_ifT 1125 (show op 0 1120 = some (.ifCond .eq 5, 3) by decide +kernel) rfl (decide_eq_true hc23) ?_
        exact h
      · rw [if_neg hc23] at h
        refine g_ifF 1123 1125 (show op 0 1120 = some (.ifCond .eq 5, 3) by decide +kernel) rfl rfl (decide_eq_false hc23) ?_
        refine g_iconst 1124 (show op 0 1123 = some (.iconst 0, 1) by decide +kernel) rfl rfl ?_
        exact (g_zret (show op 0 1124 = some (.ireturn, 1) by decide +kernel) (by decide +kernel) (by decide) h)
    · rw [if_neg hc22] at h
      refine g_ifT 1125 (show op 0 1110 = some (.ifCond .ne 15, 3) by decide +kernel) rfl (decide_eq_true hc22) ?_
      exact h
  · rw [if_neg hc21] at h
    refine g_icmpF 1106 1108 (show op 0 1103 = some (.if_icmp .eq 5, 3) by decide +kernel) rfl rfl (decide_eq_false hc21) ?_
    refine g_iconst 1107 (show op 0 1106 = some (.iconst 0, 1) by decide +kernel) rfl rfl ?_
    exact (g_zret (show op 0 1107 = some (.ireturn, 1) by decide +kernel) (by decide +kernel) (by decide) h)
theorem b0_1128 {x4 : Int} {d5 : Option AV} {d6 : Option AV} {k : Nat} {n : Nat} {σ : Sg} {o : Rs} (h : (-2147483648 ≤ (x4 + 1) ∧ (x4 + 1) ≤ 2147483647) ∧ (0 ≤ (x4 + 1) ∧ (x4 + 1) < σ (SCR + 1) 0) ∧ (-2147483648 ≤ (x4 + 2) ∧ (x4 + 2) ≤ 2147483647) ∧ (0 ≤ (x4 + 2) ∧ (x4 + 2) < σ (SCR + 1) 0) ∧ ((k + 3) ≤ 601024 ∧ (n + 18) ≤ 7293034) ∧ (∃ (v6 : Int) (s5 : Sg), Dd 402 [(.inr (.inr (some 0))), (.inl (σ SCR ((x4 + 1)).toNat)), (.inl (σ SCR ((x4 + 2)).toNat)), (.inr (.inr (some 726)))] σ (.inl (some (.inl v6)), s5) ∧ (-2147483648 ≤ (x4 + 1) ∧ (x4 + 1) ≤ 2147483647) ∧ (0 ≤ (x4 + 1) ∧ (x4 + 1) < s5 (SCR + 1) 0) ∧ (-2147483648 ≤ (x4 + 2) ∧ (x4 + 2) ≤ 2147483647) ∧ (0 ≤ (x4 + 2) ∧ (x4 + 2) < s5 (SCR + 1) 0) ∧ ((k + 3) ≤ 601024 ∧ (n + 18) ≤ 7293034) ∧ (∃ (v14 : Int) (s13 : Sg), Dd 302 [(.inr (.inr (some 682))), (.inl (s5 SCR ((x4 + 1)).toNat)), (.inl (s5 SCR ((x4 + 2)).toNat))] s5 (.inl (some (.inl v14)), s13) ∧ ((k + 3) ≤ 601024 ∧ (n + 18) ≤ 7293034) ∧ (∃ (v18 : Int) (s17 : Sg), Dd 244 [(.inr (.inr (some 682)))] s13 (.inl (some (.inl v18)), s17) ∧ (if v18 = v6 then (if v6 = 0 then C0_1194 x4 (some (.inl v6)) (some (.inl v14)) (s17 726 (0 : Int).toNat) (if v14 = 0 then 0 else 1) (k + 3) (n + 18) s17 o else C0_1200 x4 (some (.inl v6)) (some (.inl v14)) (k + 3) (n + 18) s17 o) else o = (.inl (some (.inl 0)), s17)))))) : C0_1128 x4 d5 d6 k n σ o := by
  show Gd 0 1128 [(some (.inr (.inr (some SCR)))), (some (.inr (.inr (some 0)))), (some (.inr (.inr (some 682)))), (some (.inr (.inr (some 726)))), (some (.inl x4)), d5, d6] [] σ k n o
  refine g_aload_n 1129 (show op 0 1128 = some (.aload_n 1, 1) by decide +kernel) rfl rfl ?_
  refine g_aload_n 1130 (show op 0 1129 = some (.aload_n 0, 1) by decide +kernel) rfl rfl ?_
  refine g_iload 1132 (show op 0 1130 = some (.iload 4, 2) by decide +kernel) rfl rfl ?_
  refine g_iconst 1133 (show op 0 1132 = some (.iconst 1, 1) by decide +kernel) rfl rfl ?_
  obtain ⟨g1, h⟩ := h
  refine g_iadd 1134 (show op 0 1133 = some (.iadd, 1) by decide +kernel) rfl g1 ?_
  obtain ⟨g2, h⟩ := h
  refine g_scr 1135 (show op 0 1134 = some (.iaload, 1) by decide +kernel) rfl g2 ?_
  refine g_aload_n 1136 (show op 0 1135 = some (.aload_n 0, 1) by decide +kernel) rfl rfl ?_
  refine g_iload 1138 (show op 0 1136 = some (.iload 4, 2) by decide +kernel) rfl rfl ?_
  refine g_iconst 1139 (show op 0 1138 = some (.iconst 2, 1) by decide +kernel) rfl rfl ?_
  obtain ⟨g3, h⟩ := h
  refine g_iadd 1140 (show op 0 1139 = some (.iadd, 1) by decide +kernel) rfl g3 ?_
  obtain ⟨g4, h⟩ := h
  refine g_scr 1141 (show op 0 1140 = some (.iaload, 1) by decide +kernel) rfl g4 ?_
  refine g_aload_n 1142 (show op 0 1141 = some (.aload_n 3, 1) by decide +kernel) rfl rfl ?_
  obtain ⟨g8, h⟩ := h
  obtain ⟨v6, s5, hD7, h⟩ := h
  refine g_call 1145 [(.inl v6)] (show op 0 1142 = some (.invokestatic 233, 3) by decide +kernel) (call_stL (c := 3) (s := 18) (nj := 4) (j := 402) (t := []) (as := [(.inr (.inr (some 0))), (.inl (σ SCR ((x4 + 1)).toNat)), (.inl (σ SCR ((x4 + 2)).toNat)), (.inr (.inr (some 726)))]) (by decide +kernel) rfl (by decide +kernel) g8 rfl rfl rfl rfl rfl) hD7 rfl ?_
  refine g_istore 1147 [(some (.inr (.inr (some SCR)))), (some (.inr (.inr (some 0)))), (some (.inr (.inr (some 682)))), (some (.inr (.inr (some 726)))), (some (.inl x4)), (some (.inl v6)), d6] (show op 0 1145 = some (.istore 5, 2) by decide +kernel) rfl rfl rfl ?_
  refine g_aload_n 1148 (show op 0 1147 = some (.aload_n 2, 1) by decide +kernel) rfl rfl ?_
  refine g_aload_n 1149 (show op 0 1148 = some (.aload_n 0, 1) by decide +kernel) rfl rfl ?_
  refine g_iload 1151 (show op 0 1149 = some (.iload 4, 2) by decide +kernel) rfl rfl ?_
  refine g_iconst 1152 (show op 0 1151 = some (.iconst 1, 1) by decide +kernel) rfl rfl ?_
  obtain ⟨g9, h⟩ := h
  refine g_iadd 1153 (show op 0 1152 = some (.iadd, 1) by decide +kernel) rfl g9 ?_
  obtain ⟨g10, h⟩ := h
  refine g_scr 1154 (show op 0 1153 = some (.iaload, 1) by decide +kernel) rfl g10 ?_
  refine g_aload_n 1155 (show op 0 1154 = some (.aload_n 0, 1) by decide +kernel) rfl rfl ?_
  refine g_iload 1157 (show op 0 1155 = some (.iload 4, 2) by decide +kernel) rfl rfl ?_
  refine g_iconst 1158 (show op 0 1157 = some (.iconst 2, 1) by decide +kernel) rfl rfl ?_
  obtain ⟨g11, h⟩ := h
  refine g_iadd 1159 (show op 0 1158 = some (.iadd, 1) by decide +kernel) rfl g11 ?_
  obtain ⟨g12, h⟩ := h
  refine g_scr 1160 (show op 0 1159 = some (.iaload, 1) by decide +kernel) rfl g12 ?_
  obtain ⟨g16, h⟩ := h
  obtain ⟨v14, s13, hD15, h⟩ := h
  refine g_call 1163 [(.inl v14)] (show op 0 1160 = some (.invokevirtual 235, 3) by decide +kernel) (call_viL (c := 0) (s := 0) (nj := 3) (j := 302) (k9 := 21) (t := []) (as := [(.inr (.inr (some 682))), (.inl (s5 SCR ((x4 + 1)).toNat)), (.inl (s5 SCR ((x4 + 2)).toNat))]) (by decide +kernel) rfl (by decide +kernel) g16 rfl rfl rfl rfl rfl rfl (by decide +kernel) (by decide +kernel)) hD15 rfl ?_
  refine g_istore 1165 [(some (.inr (.inr (some SCR)))), (some (.inr (.inr (some 0)))), (some (.inr (.inr (some 682)))), (some (.inr (.inr (some 726)))), (some (.inl x4)), (some (.inl v6)), (some (.inl v14))] (show op 0 1163 = some (.istore 6, 2) by decide +kernel) rfl rfl rfl ?_
  refine g_aload_n 1166 (show op 0 1165 = some (.aload_n 2, 1) by decide +kernel) rfl rfl ?_
  obtain ⟨g20, h⟩ := h
  obtain ⟨v18, s17, hD19, h⟩ := h
  refine g_call 1169 [(.inl v18)] (show op 0 1166 = some (.invokevirtual 194, 3) by decide +kernel) (call_viL (c := 0) (s := 0) (nj := 1) (j := 244) (k9 := 21) (t := []) (as := [(.inr (.inr (some 682)))]) (by decide +kernel) rfl (by decide +kernel) g20 rfl rfl rfl rfl rfl rfl (by decide +kernel) (by decide +kernel)) hD19 rfl ?_
  refine g_iload 1171 (show op 0 1169 = some (.iload 5, 2) by decide +kernel) rfl rfl ?_
  by_cases hc21 : v18 = v6
  · rw [if_pos hc21] at h
    refine g_icmpT 1176 (show op 0 1171 = some (.if_icmp .eq 5, 3) by decide +kernel) rfl (decide_eq_true hc21) ?_
    refine g_iload 1178 (show op 0 1176 = some (.iload 5, 2) by decide +kernel) rfl rfl ?_
    by_cases hc22 : v6 = 0
    · rw [if_pos hc22] at h
      refine g_ifF 1181 1200 (show op 0 1178 = some (.ifCond .ne 22, 3) by decide +kernel) rfl rfl (decide_eq_false (fun h9 => h9 hc22)) ?_
      refine g_aload_n 1182 (show op 0 1181 = some (.aload_n 3, 1) by decide +kernel) rfl rfl ?_
      refine g_iconst 1183 (show op 0 1182 = some (.iconst 0, 1) by decide +kernel) rfl rfl ?_
      refine g_laload 1184 1 (show op 0 1183 = some (.laload, 1) by decide +kernel) rfl (by decide +kernel) (by decide) ?_
      refine g_iload 1186 (show op 0 1184 = some (.iload 6, 2) by decide +kernel) rfl rfl ?_
      by_cases hc23 : v14 = 0
      · refine g_ifT 1193 (show op 0 1186 = some (.ifCond .eq 7, 3) by decide +kernel) rfl (decide_eq_true hc23) ?_
        refine g_lconst 1194 (show op 0 1193 = some (.lconst 0, 1) by decide +kernel) rfl ?_
        have h9 := h; simp only [if_pos hc23] at h9; exact h9
      · refine g_ifF 1189 1193 (show op 0 1186 = some (.ifCond .eq 7, 3) by decide +kernel) rfl rfl (decide_eq_false hc23) ?_
        refine g_lconst 1190 (show op 0 1189 = some (.lconst 1, 1) by decide +kernel) rfl ?_
        refine g_goto 1194 (show op 0 1190 = some (.goto 4, 3) by decide +kernel) rfl ?_
        have h9 := h; simp only [if_neg hc23] at h9; exact h9
    · rw [if_neg hc22] at h
      refine g_ifT 1200 (show op 0 1178 = some (.ifCond .ne 22, 3) by decide +kernel) rfl (decide_eq_true hc22) ?_
      exact h
  · rw [if_neg hc21] at h
    refine g_icmpF 1174 1176 (show op 0 1171 = some (.if_icmp .eq 5, 3) by decide +kernel) rfl rfl (decide_eq_false hc21) ?_
    refine g_iconst 1175 (show op 0 1174 = some (.iconst 0, 1) by decide +kernel) rfl rfl ?_
    exact (g_zret (show op 0 1175 = some (.ireturn, 1) by decide +kernel) (by decide +kernel) (by decide) h)
theorem b0_1203 {x4 : Int} {d5 : Option AV} {d6 : Option AV} {k : Nat} {n : Nat} {σ : Sg} {o : Rs} (h : (-2147483648 ≤ (x4 + 1) ∧ (x4 + 1) ≤ 2147483647) ∧ (0 ≤ (x4 + 1) ∧ (x4 + 1) < σ (SCR + 1) 0) ∧ (-2147483648 ≤ (x4 + 2) ∧ (x4 + 2) ≤ 2147483647) ∧ (0 ≤ (x4 + 2) ∧ (x4 + 2) < σ (SCR + 1) 0) ∧ (-2147483648 ≤ (x4 + 3) ∧ (x4 + 3) ≤ 2147483647) ∧ (0 ≤ (x4 + 3) ∧ (x4 + 3) < σ (SCR + 1) 0) ∧ C0_1230 x4 d5 d6 (σ SCR ((x4 + 1)).toNat) (σ SCR ((x4 + 2)).toNat) (if (σ SCR ((x4 + 3)).toNat) = 0 then 0 else 1) k n σ o) : C0_1203 x4 d5 d6 k n σ o := by
  show Gd 0 1203 [(some (.inr (.inr (some SCR)))), (some (.inr (.inr (some 0)))), (some (.inr (.inr (some 682)))), (some (.inr (.inr (some 726)))), (some (.inl x4)), d5, d6] [] σ k n o
  refine g_aload_n 1204 (show op 0 1203 = some (.aload_n 1, 1) by decide +kernel) rfl rfl ?_
  refine g_aload_n 1205 (show op 0 1204 = some (.aload_n 0, 1) by decide +kernel) rfl rfl ?_
  refine g_iload 1207 (show op 0 1205 = some (.iload 4, 2) by decide +kernel) rfl rfl ?_
  refine g_iconst 1208 (show op 0 1207 = some (.iconst 1, 1) by decide +kernel) rfl rfl ?_
  obtain ⟨g1, h⟩ := h
  refine g_iadd 1209 (show op 0 1208 = some (.iadd, 1) by decide +kernel) rfl g1 ?_
  obtain ⟨g2, h⟩ := h
  refine g_scr 1210 (show op 0 1209 = some (.iaload, 1) by decide +kernel) rfl g2 ?_
  refine g_aload_n 1211 (show op 0 1210 = some (.aload_n 0, 1) by decide +kernel) rfl rfl ?_
  refine g_iload 1213 (show op 0 1211 = some (.iload 4, 2) by decide +kernel) rfl rfl ?_
  refine g_iconst 1214 (show op 0 1213 = some (.iconst 2, 1) by decide +kernel) rfl rfl ?_
  obtain ⟨g3, h⟩ := h
  refine g_iadd 1215 (show op 0 1214 = some (.iadd, 1) by decide +kernel) rfl g3 ?_
  obtain ⟨g4, h⟩ := h
  refine g_scr 1216 (show op 0 1215 = some (.iaload, 1) by decide +kernel) rfl g4 ?_
  refine g_aload_n 1217 (show op 0 1216 = some (.aload_n 0, 1) by decide +kernel) rfl rfl ?_
  refine g_iload 1219 (show op 0 1217 = some (.iload 4, 2) by decide +kernel) rfl rfl ?_
  refine g_iconst 1220 (show op 0 1219 = some (.iconst 3, 1) by decide +kernel) rfl rfl ?_
  obtain ⟨g5, h⟩ := h
  refine g_iadd 1221 (show op 0 1220 = some (.iadd, 1) by decide +kernel) rfl g5 ?_
  obtain ⟨g6, h⟩ := h
  refine g_scr 1222 (show op 0 1221 = some (.iaload, 1) by decide +kernel) rfl g6 ?_
  by_cases hc7 : (σ SCR ((x4 + 3)).toNat) = 0
  · refine g_ifT 1229 (show op 0 1222 = some (.ifCond .eq 7, 3) by decide +kernel) rfl (decide_eq_true hc7) ?_
    refine g_iconst 1230 (show op 0 1229 = some (.iconst 0, 1) by decide +kernel) rfl rfl ?_
    have h9 := h; simp only [if_pos hc7] at h9; exact h9
  · refine g_ifF 1225 1229 (show op 0 1222 = some (.ifCond .eq 7, 3) by decide +kernel) rfl rfl (decide_eq_false hc7) ?_
    refine g_iconst 1226 (show op 0 1225 = some (.iconst 1, 1) by decide +kernel) rfl rfl ?_
    refine g_goto 1230 (show op 0 1226 = some (.goto 4, 3) by decide +kernel) rfl ?_
    have h9 := h; simp only [if_neg hc7] at h9; exact h9
theorem b0_1299 {x4 : Int} {d5 : Option AV} {d6 : Option AV} {k : Nat} {n : Nat} {σ : Sg} {o : Rs} (h : (-2147483648 ≤ (x4 + 1) ∧ (x4 + 1) ≤ 2147483647) ∧ (0 ≤ (x4 + 1) ∧ (x4 + 1) < σ (SCR + 1) 0) ∧ (-2147483648 ≤ (x4 + 2) ∧ (x4 + 2) ≤ 2147483647) ∧ (0 ≤ (x4 + 2) ∧ (x4 + 2) < σ (SCR + 1) 0) ∧ (-2147483648 ≤ (x4 + 3) ∧ (x4 + 3) ≤ 2147483647) ∧ (0 ≤ (x4 + 3) ∧ (x4 + 3) < σ (SCR + 1) 0) ∧ (-2147483648 ≤ (x4 + 4) ∧ (x4 + 4) ≤ 2147483647) ∧ (0 ≤ (x4 + 4) ∧ (x4 + 4) < σ (SCR + 1) 0) ∧ (-2147483648 ≤ (x4 + 5) ∧ (x4 + 5) ≤ 2147483647) ∧ (0 ≤ (x4 + 5) ∧ (x4 + 5) < σ (SCR + 1) 0) ∧ C0_1338 x4 d5 d6 (σ SCR ((x4 + 1)).toNat) (σ SCR ((x4 + 2)).toNat) (σ SCR ((x4 + 3)).toNat) (σ SCR ((x4 + 4)).toNat) (if (σ SCR ((x4 + 5)).toNat) = 0 then 0 else 1) k n σ o) : C0_1299 x4 d5 d6 k n σ o := by
  show Gd 0 1299 [(some (.inr (.inr (some SCR)))), (some (.inr (.inr (some 0)))), (some (.inr (.inr (some 682)))), (some (.inr (.inr (some 726)))), (some (.inl x4)), d5, d6] [] σ k n o
  refine g_aload_n 1300 (show op 0 1299 = some (.aload_n 1, 1) by decide +kernel) rfl rfl ?_
  refine g_aload_n 1301 (show op 0 1300 = some (.aload_n 0, 1) by decide +kernel) rfl rfl ?_
  refine g_iload 1303 (show op 0 1301 = some (.iload 4, 2) by decide +kernel) rfl rfl ?_
  refine g_iconst 1304 (show op 0 1303 = some (.iconst 1, 1) by decide +kernel) rfl rfl ?_
  obtain ⟨g1, h⟩ := h
  refine g_iadd 1305 (show op 0 1304 = some (.iadd, 1) by decide +kernel) rfl g1 ?_
  obtain ⟨g2, h⟩ := h
  refine g_scr 1306 (show op 0 1305 = some (.iaload, 1) by decide +kernel) rfl g2 ?_
  refine g_aload_n 1307 (show op 0 1306 = some (.aload_n 0, 1) by decide +kernel) rfl rfl ?_
  refine g_iload 1309 (show op 0 1307 = some (.iload 4, 2) by decide +kernel) rfl rfl ?_
  refine g_iconst 1310 (show op 0 1309 = some (.iconst 2, 1) by decide +kernel) rfl rfl ?_
  obtain ⟨g3, h⟩ := h
  refine g_iadd 1311 (show op 0 1310 = some (.iadd, 1) by decide +kernel) rfl g3 ?_
  obtain ⟨g4, h⟩ := h
  refine g_scr 1312 (show op 0 1311 = some (.iaload, 1) by decide +kernel) rfl g4 ?_
  refine g_aload_n 1313 (show op 0 1312 = some (.aload_n 0, 1) by decide +kernel) rfl rfl ?_
  refine g_iload 1315 (show op 0 1313 = some (.iload 4, 2) by decide +kernel) rfl rfl ?_
  refine g_iconst 1316 (show op 0 1315 = some (.iconst 3, 1) by decide +kernel) rfl rfl ?_
  obtain ⟨g5, h⟩ := h
  refine g_iadd 1317 (show op 0 1316 = some (.iadd, 1) by decide +kernel) rfl g5 ?_
  obtain ⟨g6, h⟩ := h
  refine g_scr 1318 (show op 0 1317 = some (.iaload, 1) by decide +kernel) rfl g6 ?_
  refine g_aload_n 1319 (show op 0 1318 = some (.aload_n 0, 1) by decide +kernel) rfl rfl ?_
  refine g_iload 1321 (show op 0 1319 = some (.iload 4, 2) by decide +kernel) rfl rfl ?_
  refine g_iconst 1322 (show op 0 1321 = some (.iconst 4, 1) by decide +kernel) rfl rfl ?_
  obtain ⟨g7, h⟩ := h
  refine g_iadd 1323 (show op 0 1322 = some (.iadd, 1) by decide +kernel) rfl g7 ?_
  obtain ⟨g8, h⟩ := h
  refine g_scr 1324 (show op 0 1323 = some (.iaload, 1) by decide +kernel) rfl g8 ?_
  refine g_aload_n 1325 (show op 0 1324 = some (.aload_n 0, 1) by decide +kernel) rfl rfl ?_
  refine g_iload 1327 (show op 0 1325 = some (.iload 4, 2) by decide +kernel) rfl rfl ?_
  refine g_iconst 1328 (show op 0 1327 = some (.iconst 5, 1) by decide +kernel) rfl rfl ?_
  obtain ⟨g9, h⟩ := h
  refine g_iadd 1329 (show op 0 1328 = some (.iadd, 1) by decide +kernel) rfl g9 ?_
  obtain ⟨g10, h⟩ := h
  refine g_scr 1330 (show op 0 1329 = some (.iaload, 1) by decide +kernel) rfl g10 ?_
  by_cases hc11 : (σ SCR ((x4 + 5)).toNat) = 0
  · refine g_ifT 1337 (show op 0 1330 = some (.ifCond .eq 7, 3) by decide +kernel) rfl (decide_eq_true hc11) ?_
    refine g_iconst 1338 (show op 0 1337 = some (.iconst 0, 1) by decide +kernel) rfl rfl ?_
    have h9 := h; simp only [if_pos hc11] at h9; exact h9
  · refine g_ifF 1333 1337 (show op 0 1330 = some (.ifCond .eq 7, 3) by decide +kernel) rfl rfl (decide_eq_false hc11) ?_
    refine g_iconst 1334 (show op 0 1333 = some (.iconst 1, 1) by decide +kernel) rfl rfl ?_
    refine g_goto 1338 (show op 0 1334 = some (.goto 4, 3) by decide +kernel) rfl ?_
    have h9 := h; simp only [if_neg hc11] at h9; exact h9
theorem b0_1419 {x4 : Int} {d5 : Option AV} {d6 : Option AV} {k : Nat} {n : Nat} {σ : Sg} {o : Rs} (h : (k ≤ 601024 ∧ n ≤ 7293034) ∧ (∃ (v2 : Int) (s1 : Sg), Dd 187 [(.inr (.inr (some 0)))] σ (.inl (some (.inl v2)), s1) ∧ (k ≤ 601024 ∧ n ≤ 7293034) ∧ (∃ (v6 : Int) (s5 : Sg), Dd 306 [(.inr (.inr (some 682)))] s1 (.inl (some (.inl v6)), s5) ∧ (if v2 = v6 then C0_3927 x4 d5 d6 k n s5 o else o = (.inl (some (.inl 0)), s5))))) : C0_1419 x4 d5 d6 k n σ o := by
  show Gd 0 1419 [(some (.inr (.inr (some SCR)))), (some (.inr (.inr (some 0)))), (some (.inr (.inr (some 682)))), (some (.inr (.inr (some 726)))), (some (.inl x4)), d5, d6] [] σ k n o
  refine g_aload_n 1420 (show op 0 1419 = some (.aload_n 1, 1) by decide +kernel) rfl rfl ?_
  obtain ⟨g4, h⟩ := h
  obtain ⟨v2, s1, hD3, h⟩ := h
  refine g_call 1423 [(.inl v2)] (show op 0 1420 = some (.invokevirtual 244, 3) by decide +kernel) (call_viL (c := 0) (s := 0) (nj := 1) (j := 187) (k9 := 20) (t := []) (as := [(.inr (.inr (some 0)))]) (by decide +kernel) rfl (by decide +kernel) g4 rfl rfl rfl rfl rfl rfl (by decide +kernel) (by decide +kernel)) hD3 rfl ?_
  refine g_aload_n 1424 (show op 0 1423 = some (.aload_n 2, 1) by decide +kernel) rfl rfl ?_
  obtain ⟨g8, h⟩ := h
  obtain ⟨v6, s5, hD7, h⟩ := h
  refine g_call 1427 [(.inl v6), (.inl v2)] (show op 0 1424 = some (.invokevirtual 247, 3) by decide +kernel) (call_viL (c := 0) (s := 0) (nj := 1) (j := 306) (k9 := 21) (t := [(.inl v2)]) (as := [(.inr (.inr (some 682)))]) (by decide +kernel) rfl (by decide +kernel) g8 rfl rfl rfl rfl rfl rfl (by decide +kernel) (by decide +kernel)) hD7 rfl ?_
  by_cases hc9 : v2 = v6
  · rw [if_pos hc9] at h
    refine g_icmpT 3927 (show op 0 1427 = some (.if_icmp .eq 2500, 3) by decide +kernel) rfl (decide_eq_true hc9) ?_
    exact h
  · rw [if_neg hc9] at h
    refine g_icmpF 1430 3927 (show op 0 1427 = some (.if_icmp .eq 2500, 3) by decide +kernel) rfl rfl (decide_eq_false hc9) ?_
    refine g_iconst 1431 (show op 0 1430 = some (.iconst 0, 1) by decide +kernel) rfl rfl ?_
    exact (g_zret (show op 0 1431 = some (.ireturn, 1) by decide +kernel) (by decide +kernel) (by decide) h)
theorem b0_1432 {x4 : Int} {d5 : Option AV} {d6 : Option AV} {k : Nat} {n : Nat} {σ : Sg} {o : Rs} (h : (-2147483648 ≤ (x4 + 1) ∧ (x4 + 1) ≤ 2147483647) ∧ (0 ≤ (x4 + 1) ∧ (x4 + 1) < σ (SCR + 1) 0) ∧ (-2147483648 ≤ (x4 + 2) ∧ (x4 + 2) ≤ 2147483647) ∧ (0 ≤ (x4 + 2) ∧ (x4 + 2) < σ (SCR + 1) 0) ∧ C0_1453 x4 d5 d6 (σ SCR ((x4 + 1)).toNat) (if (σ SCR ((x4 + 2)).toNat) = 0 then 0 else 1) k n σ o) : C0_1432 x4 d5 d6 k n σ o := by
  show Gd 0 1432 [(some (.inr (.inr (some SCR)))), (some (.inr (.inr (some 0)))), (some (.inr (.inr (some 682)))), (some (.inr (.inr (some 726)))), (some (.inl x4)), d5, d6] [] σ k n o
  refine g_aload_n 1433 (show op 0 1432 = some (.aload_n 1, 1) by decide +kernel) rfl rfl ?_
  refine g_aload_n 1434 (show op 0 1433 = some (.aload_n 0, 1) by decide +kernel) rfl rfl ?_
  refine g_iload 1436 (show op 0 1434 = some (.iload 4, 2) by decide +kernel) rfl rfl ?_
  refine g_iconst 1437 (show op 0 1436 = some (.iconst 1, 1) by decide +kernel) rfl rfl ?_
  obtain ⟨g1, h⟩ := h
  refine g_iadd 1438 (show op 0 1437 = some (.iadd, 1) by decide +kernel) rfl g1 ?_
  obtain ⟨g2, h⟩ := h
  refine g_scr 1439 (show op 0 1438 = some (.iaload, 1) by decide +kernel) rfl g2 ?_
  refine g_aload_n 1440 (show op 0 1439 = some (.aload_n 0, 1) by decide +kernel) rfl rfl ?_
  refine g_iload 1442 (show op 0 1440 = some (.iload 4, 2) by decide +kernel) rfl rfl ?_
  refine g_iconst 1443 (show op 0 1442 = some (.iconst 2, 1) by decide +kernel) rfl rfl ?_
  obtain ⟨g3, h⟩ := h
  refine g_iadd 1444 (show op 0 1443 = some (.iadd, 1) by decide +kernel) rfl g3 ?_
  obtain ⟨g4, h⟩ := h
  refine g_scr 1445 (show op 0 1444 = some (.iaload, 1) by decide +kernel) rfl g4 ?_
  by_cases hc5 : (σ SCR ((x4 + 2)).toNat) = 0
  · refine g_ifT 1452 (show op 0 1445 = some (.ifCond .eq 7, 3) by decide +kernel) rfl (decide_eq_true hc5) ?_
    refine g_iconst 1453 (show op 0 1452 = some (.iconst 0, 1) by decide +kernel) rfl rfl ?_
    have h9 := h; simp only [if_pos hc5] at h9; exact h9
  · refine g_ifF 1448 1452 (show op 0 1445 = some (.ifCond .eq 7, 3) by decide +kernel) rfl rfl (decide_eq_false hc5) ?_
    refine g_iconst 1449 (show op 0 1448 = some (.iconst 1, 1) by decide +kernel) rfl rfl ?_
    refine g_goto 1453 (show op 0 1449 = some (.goto 4, 3) by decide +kernel) rfl ?_
    have h9 := h; simp only [if_neg hc5] at h9; exact h9
theorem b0_1528 {x4 : Int} {d5 : Option AV} {d6 : Option AV} {k : Nat} {n : Nat} {σ : Sg} {o : Rs} (h : (-2147483648 ≤ (x4 + 1) ∧ (x4 + 1) ≤ 2147483647) ∧ (0 ≤ (x4 + 1) ∧ (x4 + 1) < σ (SCR + 1) 0) ∧ (-2147483648 ≤ (x4 + 2) ∧ (x4 + 2) ≤ 2147483647) ∧ (0 ≤ (x4 + 2) ∧ (x4 + 2) < σ (SCR + 1) 0) ∧ ((k + 2) ≤ 601024 ∧ (n + 12) ≤ 7293034) ∧ (∃ (v6 : Int) (s5 : Sg), Dd 406 [(.inr (.inr (some 0))), (.inl (σ SCR ((x4 + 1)).toNat)), (.inl (σ SCR ((x4 + 2)).toNat)), (.inr (.inr (some 726)))] σ (.inl (some (.inl v6)), s5) ∧ (-2147483648 ≤ (x4 + 1) ∧ (x4 + 1) ≤ 2147483647) ∧ (0 ≤ (x4 + 1) ∧ (x4 + 1) < s5 (SCR + 1) 0) ∧ (-2147483648 ≤ (x4 + 2) ∧ (x4 + 2) ≤ 2147483647) ∧ (0 ≤ (x4 + 2) ∧ (x4 + 2) < s5 (SCR + 1) 0) ∧ ((k + 2) ≤ 601024 ∧ (n + 12) ≤ 7293034) ∧ (∃ (v14 : Int) (s13 : Sg), Dd 309 [(.inr (.inr (some 682))), (.inl (s5 SCR ((x4 + 1)).toNat)), (.inl (s5 SCR ((x4 + 2)).toNat))] s5 (.inl (some (.inl v14)), s13) ∧ ((k + 2) ≤ 601024 ∧ (n + 12) ≤ 7293034) ∧ (∃ (v18 : Int) (s17 : Sg), Dd 244 [(.inr (.inr (some 682)))] s13 (.inl (some (.inl v18)), s17) ∧ (if v18 = v6 then (if v6 = 0 then (if (if v14 < (s17 726 (0 : Int).toNat) then 1 else if (s17 726 (0 : Int).toNat) = v14 then 0 else -1) = 0 then C0_1593 x4 (some (.inl v6)) (some (.inl v14)) (k + 2) (n + 12) s17 o else o = (.inl (some (.inl 0)), s17)) else C0_1593 x4 (some (.inl v6)) (some (.inl v14)) (k + 2) (n + 12) s17 o) else o = (.inl (some (.inl 0)), s17)))))) : C0_1528 x4 d5 d6 k n σ o := by
  show Gd 0 1528 [(some (.inr (.inr (some SCR)))), (some (.inr (.inr (some 0)))), (some (.inr (.inr (some 682)))), (some (.inr (.inr (some 726)))), (some (.inl x4)), d5, d6] [] σ k n o
  refine g_aload_n 1529 (show op 0 1528 = some (.aload_n 1, 1) by decide +kernel) rfl rfl ?_
  refine g_aload_n 1530 (show op 0 1529 = some (.aload_n 0, 1) by decide +kernel) rfl rfl ?_
  refine g_iload 1532 (show op 0 1530 = some (.iload 4, 2) by decide +kernel) rfl rfl ?_
  refine g_iconst 1533 (show op 0 1532 = some (.iconst 1, 1) by decide +kernel) rfl rfl ?_
  obtain ⟨g1, h⟩ := h
  refine g_iadd 1534 (show op 0 1533 = some (.iadd, 1) by decide +kernel) rfl g1 ?_
  obtain ⟨g2, h⟩ := h
  refine g_scr 1535 (show op 0 1534 = some (.iaload, 1) by decide +kernel) rfl g2 ?_
  refine g_aload_n 1536 (show op 0 1535 = some (.aload_n 0, 1) by decide +kernel) rfl rfl ?_
  refine g_iload 1538 (show op 0 1536 = some (.iload 4, 2) by decide +kernel) rfl rfl ?_
  refine g_iconst 1539 (show op 0 1538 = some (.iconst 2, 1) by decide +kernel) rfl rfl ?_
  obtain ⟨g3, h⟩ := h
  refine g_iadd 1540 (show op 0 1539 = some (.iadd, 1) by decide +kernel) rfl g3 ?_
  obtain ⟨g4, h⟩ := h
  refine g_scr 1541 (show op 0 1540 = some (.iaload, 1) by decide +kernel) rfl g4 ?_
  refine g_aload_n 1542 (show op 0 1541 = some (.aload_n 3, 1) by decide +kernel) rfl rfl ?_
  obtain ⟨g8, h⟩ := h
  obtain ⟨v6, s5, hD7, h⟩ := h
  refine g_call 1545 [(.inl v6)] (show op 0 1542 = some (.invokestatic 252, 3) by decide +kernel) (call_stL (c := 2) (s := 12) (nj := 4) (j := 406) (t := []) (as := [(.inr (.inr (some 0))), (.inl (σ SCR ((x4 + 1)).toNat)), (.inl (σ SCR ((x4 + 2)).toNat)), (.inr (.inr (some 726)))]) (by decide +kernel) rfl (by decide +kernel) g8 rfl rfl rfl rfl rfl) hD7 rfl ?_
  refine g_istore 1547 [(some (.inr (.inr (some SCR)))), (some (.inr (.inr (some 0)))), (some (.inr (.inr (some 682)))), (some (.inr (.inr (some 726)))), (some (.inl x4)), (some (.inl v6)), d6] (show op 0 1545 = some (.istore 5, 2) by decide +kernel) rfl rfl rfl ?_
  refine g_aload_n 1548 (show op 0 1547 = some (.aload_n 2, 1) by decide +kernel) rfl rfl ?_
  refine g_aload_n 1549 (show op 0 1548 = some (.aload_n 0, 1) by decide +kernel) rfl rfl ?_
  refine g_iload 1551 (show op 0 1549 = some (.iload 4, 2) by decide +kernel) rfl rfl ?_
  refine g_iconst 1552 (show op 0 1551 = some (.iconst 1, 1) by decide +kernel) rfl rfl ?_
  obtain ⟨g9, h⟩ := h
  refine g_iadd 1553 (show op 0 1552 = some (.iadd, 1) by decide +kernel) rfl g9 ?_
  obtain ⟨g10, h⟩ := h
  refine g_scr 1554 (show op 0 1553 = some (.iaload, 1) by decide +kernel) rfl g10 ?_
  refine g_aload_n 1555 (show op 0 1554 = some (.aload_n 0, 1) by decide +kernel) rfl rfl ?_
  refine g_iload 1557 (show op 0 1555 = some (.iload 4, 2) by decide +kernel) rfl rfl ?_
  refine g_iconst 1558 (show op 0 1557 = some (.iconst 2, 1) by decide +kernel) rfl rfl ?_
  obtain ⟨g11, h⟩ := h
  refine g_iadd 1559 (show op 0 1558 = some (.iadd, 1) by decide +kernel) rfl g11 ?_
  obtain ⟨g12, h⟩ := h
  refine g_scr 1560 (show op 0 1559 = some (.iaload, 1) by decide +kernel) rfl g12 ?_
  obtain ⟨g16, h⟩ := h
  obtain ⟨v14, s13, hD15, h⟩ := h
  refine g_call 1563 [(.inl v14)] (show op 0 1560 = some (.invokevirtual 254, 3) by decide +kernel) (call_viL (c := 0) (s := 0) (nj := 3) (j := 309) (k9 := 21) (t := []) (as := [(.inr (.inr (some 682))), (.inl (s5 SCR ((x4 + 1)).toNat)), (.inl (s5 SCR ((x4 + 2)).toNat))]) (by decide +kernel) rfl (by decide +kernel) g16 rfl rfl rfl rfl rfl rfl (by decide +kernel) (by decide +kernel)) hD15 rfl ?_
  refine g_istore 1565 [(some (.inr (.inr (some SCR)))), (some (.inr (.inr (some 0)))), (some (.inr (.inr (some 682)))), (some (.inr (.inr (some 726)))), (some (.inl x4)), (some (.inl v6)), (some (.inl v14))] (show op 0 1563 = some (.istore 6, 2) by decide +kernel) rfl rfl rfl ?_
  refine g_aload_n 1566 (show op 0 1565 = some (.aload_n 2, 1) by decide +kernel) rfl rfl ?_
  obtain ⟨g20, h⟩ := h
  obtain ⟨v18, s17, hD19, h⟩ := h
  refine g_call 1569 [(.inl v18)] (show op 0 1566 = some (.invokevirtual 194, 3) by decide +kernel) (call_viL (c := 0) (s := 0) (nj := 1) (j := 244) (k9 := 21) (t := []) (as := [(.inr (.inr (some 682)))]) (by decide +kernel) rfl (by decide +kernel) g20 rfl rfl rfl rfl rfl rfl (by decide +kernel) (by decide +kernel)) hD19 rfl ?_
  refine g_iload 1571 (show op 0 1569 = some (.iload 5, 2) by decide +kernel) rfl rfl ?_
  by_cases hc21 : v18 = v6
  · rw [if_pos hc21] at h
    refine g_icmpT 1576 (show op 0 1571 = some (.if_icmp .eq 5, 3) by decide +kernel) rfl (decide_eq_true hc21) ?_
    refine g_iload 1578 (show op 0 1576 = some (.iload 5, 2) by decide +kernel) rfl rfl ?_
    by_cases hc22 : v6 = 0
    · rw [if_pos hc22] at h
      refine g_ifF 1581 1593 (show op 0 1578 = some (.ifCond .ne 15, 3) by decide +kernel) rfl rfl (decide_eq_false (fun h9 => h9 hc22)) ?_
      refine g_aload_n 1582 (show op 0 1581 = some (.aload_n 3, 1) by decide +kernel) rfl rfl ?_
      refine g_iconst 1583 (show op 0 1582 = some (.iconst 0, 1) by decide +kernel) rfl rfl ?_
      refine g_laload 1584 1 (show op 0 1583 = some (.laload, 1) by decide +kernel) rfl (by decide +kernel) (by decide) ?_
      refine g_iload 1586 (show op 0 1584 = some (.iload 6, 2) by decide +kernel) rfl rfl ?_
      refine g_i2l 1587 (show op 0 1586 = some (.i2l, 1) by decide +kernel) rfl ?_
      refine g_lcmp 1588 (show op 0 1587 = some (.lcmp, 1) by decide +kernel) rfl ?_
      by_cases hc23 : (if v14 < (s17 726 (0 : Int).toNat) then 1 else if (s17 726 (0 : Int).toNat) = v14 then 0 else -1) = 0
      · rw [if_pos hc23] at h
        refine g_ifT 1593 (show op 0 1588 = some (.ifCond .eq 5, 3) by decide +kernel) rfl (decide_eq_true hc23) ?_
        exact h
      · rw [if_neg hc23] at h
        refine g_ifF 1591 1593 (show op 0 1588 = some (.ifCond .eq 5, 3) by decide +kernel) rfl rfl (decide_eq_false hc23) ?_
        refine g_iconst 1592 (show op 0 1591 = some (.iconst 0, 1) by decide +kernel) rfl rfl ?_
        exact (g_zret (show op 0 1592 = some (.ireturn, 1) by decide +kernel) (by decide +kernel) (by decide) h)
    · rw [if_neg hc22] at h
      refine g_ifT 1593 (show op 0 1578 = some (.ifCond .ne 15, 3) by decide +kernel) rfl (decide_eq_true hc22) ?_
      exact h
  · rw [if_neg hc21] at h
    refine g_icmpF 1574 1576 (show op 0 1571 = some (.if_icmp .eq 5, 3) by decide +kernel) rfl rfl (decide_eq_false hc21) ?_
    refine g_iconst 1575 (show op 0 1574 = some (.iconst 0, 1) by decide +kernel) rfl rfl ?_
    exact (g_zret (show op 0 1575 = some (.ireturn, 1) by decide +kernel) (by decide +kernel) (by decide) h)
theorem b0_1596 {x4 : Int} {d5 : Option AV} {d6 : Option AV} {k : Nat} {n : Nat} {σ : Sg} {o : Rs} (h : (-2147483648 ≤ (x4 + 1) ∧ (x4 + 1) ≤ 2147483647) ∧ (0 ≤ (x4 + 1) ∧ (x4 + 1) < σ (SCR + 1) 0) ∧ ((k + 1) ≤ 601024 ∧ (n + 6) ≤ 7293034) ∧ (∃ (v4 : Int) (s3 : Sg), Dd 407 [(.inr (.inr (some 0))), (.inl (σ SCR ((x4 + 1)).toNat)), (.inr (.inr (some 726)))] σ (.inl (some (.inl v4)), s3) ∧ (-2147483648 ≤ (x4 + 1) ∧ (x4 + 1) ≤ 2147483647) ∧ (0 ≤ (x4 + 1) ∧ (x4 + 1) < s3 (SCR + 1) 0) ∧ ((k + 1) ≤ 601024 ∧ (n + 6) ≤ 7293034) ∧ (∃ (v10 : Int) (s9 : Sg), Dd 310 [(.inr (.inr (some 682))), (.inl (s3 SCR ((x4 + 1)).toNat))] s3 (.inl (some (.inl v10)), s9) ∧ ((k + 1) ≤ 601024 ∧ (n + 6) ≤ 7293034) ∧ (∃ (v14 : Int) (s13 : Sg), Dd 244 [(.inr (.inr (some 682)))] s9 (.inl (some (.inl v14)), s13) ∧ (if v14 = v4 then (if v4 = 0 then (if (if v10 < (s13 726 (0 : Int).toNat) then 1 else if (s13 726 (0 : Int).toNat) = v10 then 0 else -1) = 0 then C0_1649 x4 (some (.inl v4)) (some (.inl v10)) (k + 1) (n + 6) s13 o else o = (.inl (some (.inl 0)), s13)) else C0_1649 x4 (some (.inl v4)) (some (.inl v10)) (k + 1) (n + 6) s13 o) else o = (.inl (some (.inl 0)), s13)))))) : C0_1596 x4 d5 d6 k n σ o := by
  show Gd 0 1596 [(some (.inr (.inr (some SCR)))), (some (.inr (.inr (some 0)))), (some (.inr (.inr (some 682)))), (some (.inr (.inr (some 726)))), (some (.inl x4)), d5, d6] [] σ k n o
  refine g_aload_n 1597 (show op 0 1596 = some (.aload_n 1, 1) by decide +kernel) rfl rfl ?_
  refine g_aload_n 1598 (show op 0 1597 = some (.aload_n 0, 1) by decide +kernel) rfl rfl ?_
  refine g_iload 1600 (show op 0 1598 = some (.iload 4, 2) by decide +kernel) rfl rfl ?_
  refine g_iconst 1601 (show op 0 1600 = some (.iconst 1, 1) by decide +kernel) rfl rfl ?_
  obtain ⟨g1, h⟩ := h
  refine g_iadd 1602 (show op 0 1601 = some (.iadd, 1) by decide +kernel) rfl g1 ?_
  obtain ⟨g2, h⟩ := h
  refine g_scr 1603 (show op 0 1602 = some (.iaload, 1) by decide +kernel) rfl g2 ?_
  refine g_aload_n 1604 (show op 0 1603 = some (.aload_n 3, 1) by decide +kernel) rfl rfl ?_
  obtain ⟨g6, h⟩ := h
  obtain ⟨v4, s3, hD5, h⟩ := h
  refine g_call 1607 [(.inl v4)] (show op 0 1604 = some (.invokestatic 255, 3) by decide +kernel) (call_stL (c := 1) (s := 6) (nj := 3) (j := 407) (t := []) (as := [(.inr (.inr (some 0))), (.inl (σ SCR ((x4 + 1)).toNat)), (.inr (.inr (some 726)))]) (by decide +kernel) rfl (by decide +kernel) g6 rfl rfl rfl rfl rfl) hD5 rfl ?_
  refine g_istore 1609 [(some (.inr (.inr (some SCR)))), (some (.inr (.inr (some 0)))), (some (.inr (.inr (some 682)))), (some (.inr (.inr (some 726)))), (some (.inl x4)), (some (.inl v4)), d6] (show op 0 1607 = some (.istore 5, 2) by decide +kernel) rfl rfl rfl ?_
  refine g_aload_n 1610 (show op 0 1609 = some (.aload_n 2, 1) by decide +kernel) rfl rfl ?_
  refine g_aload_n 1611 (show op 0 1610 = some (.aload_n 0, 1) by decide +kernel) rfl rfl ?_
  refine g_iload 1613 (show op 0 1611 = some (.iload 4, 2) by decide +kernel) rfl rfl ?_
  refine g_iconst 1614 (show op 0 1613 = some (.iconst 1, 1) by decide +kernel) rfl rfl ?_
  obtain ⟨g7, h⟩ := h
  refine g_iadd 1615 (show op 0 1614 = some (.iadd, 1) by decide +kernel) rfl g7 ?_
  obtain ⟨g8, h⟩ := h
  refine g_scr 1616 (show op 0 1615 = some (.iaload, 1) by decide +kernel) rfl g8 ?_
  obtain ⟨g12, h⟩ := h
  obtain ⟨v10, s9, hD11, h⟩ := h
  refine g_call 1619 [(.inl v10)] (show op 0 1616 = some (.invokevirtual 257, 3) by decide +kernel) (call_viL (c := 0) (s := 0) (nj := 2) (j := 310) (k9 := 21) (t := []) (as := [(.inr (.inr (some 682))), (.inl (s3 SCR ((x4 + 1)).toNat))]) (by decide +kernel) rfl (by decide +kernel) g12 rfl rfl rfl rfl rfl rfl (by decide +kernel) (by decide +kernel)) hD11 rfl ?_
  refine g_istore 1621 [(some (.inr (.inr (some SCR)))), (some (.inr (.inr (some 0)))), (some (.inr (.inr (some 682)))), (some (.inr (.inr (some 726)))), (some (.inl x4)), (some (.inl v4)), (some (.inl v10))] (show op 0 1619 = some (.istore 6, 2) by decide +kernel) rfl rfl rfl ?_
  refine g_aload_n 1622 (show op 0 1621 = some (.aload_n 2, 1) by decide +kernel) rfl rfl ?_
  obtain ⟨g16, h⟩ := h
  obtain ⟨v14, s13, hD15, h⟩ := h
  refine g_call 1625 [(.inl v14)] (show op 0 1622 = some (.invokevirtual 194, 3) by decide +kernel) (call_viL (c := 0) (s := 0) (nj := 1) (j := 244) (k9 := 21) (t := []) (as := [(.inr (.inr (some 682)))]) (by decide +kernel) rfl (by decide +kernel) g16 rfl rfl rfl rfl rfl rfl (by decide +kernel) (by decide +kernel)) hD15 rfl ?_
  refine g_iload 1627 (show op 0 1625 = some (.iload 5, 2) by decide +kernel) rfl rfl ?_
  by_cases hc17 : v14 = v4
  · rw [if_pos hc17] at h
    refine g_icmpT 1632 (show op 0 1627 = some (.if_icmp .eq 5, 3) by decide +kernel) rfl (decide_eq_true hc17) ?_
    refine g_iload 1634 (show op 0 1632 = some (.iload 5, 2) by decide +kernel) rfl rfl ?_
    by_cases hc18 : v4 = 0
    · rw [if_pos hc18] at h
      refine g_ifF 1637 1649 (show op 0 1634 = some (.ifCond .ne 15, 3) by decide +kernel) rfl rfl (decide_eq_false (fun h9 => h9 hc18)) ?_
      refine g_aload_n 1638 (show op 0 1637 = some (.aload_n 3, 1) by decide +kernel) rfl rfl ?_
      refine g_iconst 1639 (show op 0 1638 = some (.iconst 0, 1) by decide +kernel) rfl rfl ?_
      refine g_laload 1640 1 (show op 0 1639 = some (.laload, 1) by decide +kernel) rfl (by decide +kernel) (by decide) ?_
      refine g_iload 1642 (show op 0 1640 = some (.iload 6, 2) by decide +kernel) rfl rfl ?_
      refine g_i2l 1643 (show op 0 1642 = some (.i2l, 1) by decide +kernel) rfl ?_
      refine g_lcmp 1644 (show op 0 1643 = some (.lcmp, 1) by decide +kernel) rfl ?_
      by_cases hc19 : (if v10 < (s13 726 (0 : Int).toNat) then 1 else if (s13 726 (0 : Int).toNat) = v10 then 0 else -1) = 0
      · rw [if_pos hc19] at h
        refine g_ifT 1649 (show op 0 1644 = some (.ifCond .eq 5, 3) by decide +kernel) rfl (decide_eq_true hc19) ?_
        exact h
      · rw [if_neg hc19] at h
        refine g_ifF 1647 1649 (show op 0 1644 = some (.ifCond .eq 5, 3) by decide +kernel) rfl rfl (decide_eq_false hc19) ?_
        refine g_iconst 1648 (show op 0 1647 = some (.iconst 0, 1) by decide +kernel) rfl rfl ?_
        exact (g_zret (show op 0 1648 = some (.ireturn, 1) by decide +kernel) (by decide +kernel) (by decide) h)
    · rw [if_neg hc18] at h
      refine g_ifT 1649 (show op 0 1634 = some (.ifCond .ne 15, 3) by decide +kernel) rfl (decide_eq_true hc18) ?_
      exact h
  · rw [if_neg hc17] at h
    refine g_icmpF 1630 1632 (show op 0 1627 = some (.if_icmp .eq 5, 3) by decide +kernel) rfl rfl (decide_eq_false hc17) ?_
    refine g_iconst 1631 (show op 0 1630 = some (.iconst 0, 1) by decide +kernel) rfl rfl ?_
    exact (g_zret (show op 0 1631 = some (.ireturn, 1) by decide +kernel) (by decide +kernel) (by decide) h)
theorem b0_1652 {x4 : Int} {d5 : Option AV} {d6 : Option AV} {k : Nat} {n : Nat} {σ : Sg} {o : Rs} (h : (-2147483648 ≤ (x4 + 1) ∧ (x4 + 1) ≤ 2147483647) ∧ (0 ≤ (x4 + 1) ∧ (x4 + 1) < σ (SCR + 1) 0) ∧ (-2147483648 ≤ (x4 + 2) ∧ (x4 + 2) ≤ 2147483647) ∧ (0 ≤ (x4 + 2) ∧ (x4 + 2) < σ (SCR + 1) 0) ∧ (-2147483648 ≤ (x4 + 3) ∧ (x4 + 3) ≤ 2147483647) ∧ (0 ≤ (x4 + 3) ∧ (x4 + 3) < σ (SCR + 1) 0) ∧ ((k + 3) ≤ 601024 ∧ (n + 18) ≤ 7293034) ∧ (∃ (v8 : Int) (s7 : Sg), Dd 408 [(.inr (.inr (some 0))), (.inl (σ SCR ((x4 + 1)).toNat)), (.inl (σ SCR ((x4 + 2)).toNat)), (.inl (σ SCR ((x4 + 3)).toNat)), (.inr (.inr (some 726)))] σ (.inl (some (.inl v8)), s7) ∧ (-2147483648 ≤ (x4 + 1) ∧ (x4 + 1) ≤ 2147483647) ∧ (0 ≤ (x4 + 1) ∧ (x4 + 1) < s7 (SCR + 1) 0) ∧ (-2147483648 ≤ (x4 + 2) ∧ (x4 + 2) ≤ 2147483647) ∧ (0 ≤ (x4 + 2) ∧ (x4 + 2) < s7 (SCR + 1) 0) ∧ (-2147483648 ≤ (x4 + 3) ∧ (x4 + 3) ≤ 2147483647) ∧ (0 ≤ (x4 + 3) ∧ (x4 + 3) < s7 (SCR + 1) 0) ∧ ((k + 3) ≤ 601024 ∧ (n + 18) ≤ 7293034) ∧ (∃ (v18 : Int) (s17 : Sg), Dd 311 [(.inr (.inr (some 682))), (.inl (s7 SCR ((x4 + 1)).toNat)), (.inl (s7 SCR ((x4 + 2)).toNat)), (.inl (s7 SCR ((x4 + 3)).toNat))] s7 (.inl (some (.inl v18)), s17) ∧ ((k + 3) ≤ 601024 ∧ (n + 18) ≤ 7293034) ∧ (∃ (v22 : Int) (s21 : Sg), Dd 244 [(.inr (.inr (some 682)))] s17 (.inl (some (.inl v22)), s21) ∧ (if v22 = v8 then (if v8 = 0 then (if (if v18 < (s21 726 (0 : Int).toNat) then 1 else if (s21 726 (0 : Int).toNat) = v18 then 0 else -1) = 0 then C0_1729 x4 (some (.inl v8)) (some (.inl v18)) (k + 3) (n + 18) s21 o else o = (.inl (some (.inl 0)), s21)) else C0_1729 x4 (some (.inl v8)) (some (.inl v18)) (k + 3) (n + 18) s21 o) else o = (.inl (some (.inl 0)), s21)))))) : C0_1652 x4 d5 d6 k n σ o := by
  show Gd 0 1652 [(some (.inr (.inr (some SCR)))), (some (.inr (.inr (some 0)))), (some (.inr (.inr (some 682)))), (some (.inr (.inr (some 726)))), (some (.inl x4)), d5, d6] [] σ k n o
  refine g_aload_n 1653 (show op 0 1652 = some (.aload_n 1, 1) by decide +kernel) rfl rfl ?_
  refine g_aload_n 1654 (show op 0 1653 = some (.aload_n 0, 1) by decide +kernel) rfl rfl ?_
  refine g_iload 1656 (show op 0 1654 = some (.iload 4, 2) by decide +kernel) rfl rfl ?_
  refine g_iconst 1657 (show op 0 1656 = some (.iconst 1, 1) by decide +kernel) rfl rfl ?_
  obtain ⟨g1, h⟩ := h
  refine g_iadd 1658 (show op 0 1657 = some (.iadd, 1) by decide +kernel) rfl g1 ?_
  obtain ⟨g2, h⟩ := h
  refine g_scr 1659 (show op 0 1658 = some (.iaload, 1) by decide +kernel) rfl g2 ?_
  refine g_aload_n 1660 (show op 0 1659 = some (.aload_n 0, 1) by decide +kernel) rfl rfl ?_
  refine g_iload 1662 (show op 0 1660 = some (.iload 4, 2) by decide +kernel) rfl rfl ?_
  refine g_iconst 1663 (show op 0 1662 = some (.iconst 2, 1) by decide +kernel) rfl rfl ?_
  obtain ⟨g3, h⟩ := h
  refine g_iadd 1664 (show op 0 1663 = some (.iadd, 1) by decide +kernel) rfl g3 ?_
  obtain ⟨g4, h⟩ := h
  refine g_scr 1665 (show op 0 1664 = some (.iaload, 1) by decide +kernel) rfl g4 ?_
  refine g_aload_n 1666 (show op 0 1665 = some (.aload_n 0, 1) by decide +kernel) rfl rfl ?_
  refine g_iload 1668 (show op 0 1666 = some (.iload 4, 2) by decide +kernel) rfl rfl ?_
  refine g_iconst 1669 (show op 0 1668 = some (.iconst 3, 1) by decide +kernel) rfl rfl ?_
  obtain ⟨g5, h⟩ := h
  refine g_iadd 1670 (show op 0 1669 = some (.iadd, 1) by decide +kernel) rfl g5 ?_
  obtain ⟨g6, h⟩ := h
  refine g_scr 1671 (show op 0 1670 = some (.iaload, 1) by decide +kernel) rfl g6 ?_
  refine g_aload_n 1672 (show op 0 1671 = some (.aload_n 3, 1) by decide +kernel) rfl rfl ?_
  obtain ⟨g10, h⟩ := h
  obtain ⟨v8, s7, hD9, h⟩ := h
  refine g_call 1675 [(.inl v8)] (show op 0 1672 = some (.invokestatic 258, 3) by decide +kernel) (call_stL (c := 3) (s := 18) (nj := 5) (j := 408) (t := []) (as := [(.inr (.inr (some 0))), (.inl (σ SCR ((x4 + 1)).toNat)), (.inl (σ SCR ((x4 + 2)).toNat)), (.inl (σ SCR ((x4 + 3)).toNat)), (.inr (.inr (some 726)))]) (by decide +kernel) rfl (by decide +kernel) g10 rfl rfl rfl rfl rfl) hD9 rfl ?_
  refine g_istore 1677 [(some (.inr (.inr (some SCR)))), (some (.inr (.inr (some 0)))), (some (.inr (.inr (some 682)))), (some (.inr (.inr (some 726)))), (some (.inl x4)), (some (.inl v8)), d6] (show op 0 1675 = some (.istore 5, 2) by decide +kernel) rfl rfl rfl ?_
  refine g_aload_n 1678 (show op 0 1677 = some (.aload_n 2, 1) by decide +kernel) rfl rfl ?_
  refine g_aload_n 1679 (show op 0 1678 = some (.aload_n 0, 1) by decide +kernel) rfl rfl ?_
  refine g_iload 1681 (show op 0 1679 = some (.iload 4, 2) by decide +kernel) rfl rfl ?_
  refine g_iconst 1682 (show op 0 1681 = some (.iconst 1, 1) by decide +kernel) rfl rfl ?_
  obtain ⟨g11, h⟩ := h
  refine g_iadd 1683 (show op 0 1682 = some (.iadd, 1) by decide +kernel) rfl g11 ?_
  obtain ⟨g12, h⟩ := h
  refine g_scr 1684 (show op 0 1683 = some (.iaload, 1) by decide +kernel) rfl g12 ?_
  refine g_aload_n 1685 (show op 0 1684 = some (.aload_n 0, 1) by decide +kernel) rfl rfl ?_
  refine g_iload 1687 (show op 0 1685 = some (.iload 4, 2) by decide +kernel) rfl rfl ?_
  refine g_iconst 1688 (show op 0 1687 = some (.iconst 2, 1) by decide +kernel) rfl rfl ?_
  obtain ⟨g13, h⟩ := h
  refine g_iadd 1689 (show op 0 1688 = some (.iadd, 1) by decide +kernel) rfl g13 ?_
  obtain ⟨g14, h⟩ := h
  refine g_scr 1690 (show op 0 1689 = some (.iaload, 1) by decide +kernel) rfl g14 ?_
  refine g_aload_n 1691 (show op 0 1690 = some (.aload_n 0, 1) by decide +kernel) rfl rfl ?_
  refine g_iload 1693 (show op 0 1691 = some (.iload 4, 2) by decide +kernel) rfl rfl ?_
  refine g_iconst 1694 (show op 0 1693 = some (.iconst 3, 1) by decide +kernel) rfl rfl ?_
  obtain ⟨g15, h⟩ := h
  refine g_iadd 1695 (show op 0 1694 = some (.iadd, 1) by decide +kernel) rfl g15 ?_
  obtain ⟨g16, h⟩ := h
  refine g_scr 1696 (show op 0 1695 = some (.iaload, 1) by decide +kernel) rfl g16 ?_
  obtain ⟨g20, h⟩ := h
  obtain ⟨v18, s17, hD19, h⟩ := h
  refine g_call 1699 [(.inl v18)] (show op 0 1696 = some (.invokevirtual 260, 3) by decide +kernel) (call_viL (c := 0) (s := 0) (nj := 4) (j := 311) (k9 := 21) (t := []) (as := [(.inr (.inr (some 682))), (.inl (s7 SCR ((x4 + 1)).toNat)), (.inl (s7 SCR ((x4 + 2)).toNat)), (.inl (s7 SCR ((x4 + 3)).toNat))]) (by decide +kernel) rfl (by decide +kernel) g20 rfl rfl rfl rfl rfl rfl (by decide +kernel) (by decide +kernel)) hD19 rfl ?_
  refine g_istore 1701 [(some (.inr (.inr (some SCR)))), (some (.inr (.inr (some 0)))), (some (.inr (.inr (some 682)))), (some (.inr (.inr (some 726)))), (some (.inl x4)), (some (.inl v8)), (some (.inl v18))] (show op 0 1699 = some (.istore 6, 2) by decide +kernel) rfl rfl rfl ?_
  refine g_aload_n 1702 (show op 0 1701 = some (.aload_n 2, 1) by decide +kernel) rfl rfl ?_
  obtain ⟨g24, h⟩ := h
  obtain ⟨v22, s21, hD23, h⟩ := h
  refine g_call 1705 [(.inl v22)] (show op 0 1702 = some (.invokevirtual 194, 3) by decide +kernel) (call_viL (c := 0) (s := 0) (nj := 1) (j := 244) (k9 := 21) (t := []) (as := [(.inr (.inr (some 682)))]) (by decide +kernel) rfl (by decide +kernel) g24 rfl rfl rfl rfl rfl rfl (by decide +kernel) (by decide +kernel)) hD23 rfl ?_
  refine g_iload 1707 (show op 0 1705 = some (.iload 5, 2) by decide +kernel) rfl rfl ?_
  by_cases hc25 : v22 = v8
  · rw [if_pos hc25] at h
    refine g_icmpT 1712 (show op 0 1707 = some (.if_icmp .eq 5, 3) by decide +kernel) rfl (decide_eq_true hc25) ?_
    refine g_iload 1714 (show op 0 1712 = some (.iload 5, 2) by decide +kernel) rfl rfl ?_
    by_cases hc26 : v8 = 0
    · rw [if_pos hc26] at h
      refine g_ifF 1717 1729 (show op 0 1714 = some (.ifCond .ne 15, 3) by decide +kernel) rfl rfl (decide_eq_false (fun h9 => h9 hc26)) ?_
      refine g_aload_n 1718 (show op 0 1717 = some (.aload_n 3, 1) by decide +kernel) rfl rfl ?_
      refine g_iconst 1719 (show op 0 1718 = some (.iconst 0, 1) by decide +kernel) rfl rfl ?_
      refine g_laload 1720 1 (show op 0 1719 = some (.laload, 1) by decide +kernel) rfl (by decide +kernel) (by decide) ?_
      refine g_iload 1722 (show op 0 1720 = some (.iload 6, 2) by decide +kernel) rfl rfl ?_
      refine g_i2l 1723 (show op 0 1722 = some (.i2l, 1) by decide +kernel) rfl ?_
      refine g_lcmp 1724 (show op 0 1723 = some (.lcmp, 1) by decide +kernel) rfl ?_
      by_cases hc27 : (if v18 < (s21 726 (0 : Int).toNat) then 1 else if (s21 726 (0 : Int).toNat) = v18 then 0 else -1) = 0
      · rw [if_pos hc27] at h
        refine g_ifT 1729 (show op 0 1724 = some (.ifCond .eq 5, 3) by decide +kernel) rfl (decide_eq_true hc27) ?_
        exact h
      · rw [if_neg hc27] at h
        refine g_ifF 1727 1729 (show op 0 1724 = some (.ifCond .eq 5, 3) by decide +kernel) rfl rfl (decide_eq_false hc27) ?_
        refine g_iconst 1728 (show op 0 1727 = some (.iconst 0, 1) by decide +kernel) rfl rfl ?_
        exact (g_zret (show op 0 1728 = some (.ireturn, 1) by decide +kernel) (by decide +kernel) (by decide) h)
    · rw [if_neg hc26] at h
      refine g_ifT 1729 (show op 0 1714 = some (.ifCond .ne 15, 3) by decide +kernel) rfl (decide_eq_true hc26) ?_
      exact h
  · rw [if_neg hc25] at h
    refine g_icmpF 1710 1712 (show op 0 1707 = some (.if_icmp .eq 5, 3) by decide +kernel) rfl rfl (decide_eq_false hc25) ?_
    refine g_iconst 1711 (show op 0 1710 = some (.iconst 0, 1) by decide +kernel) rfl rfl ?_
    exact (g_zret (show op 0 1711 = some (.ireturn, 1) by decide +kernel) (by decide +kernel) (by decide) h)
theorem b0_1732 {x4 : Int} {d5 : Option AV} {d6 : Option AV} {k : Nat} {n : Nat} {σ : Sg} {o : Rs} (h : (-2147483648 ≤ (x4 + 1) ∧ (x4 + 1) ≤ 2147483647) ∧ (0 ≤ (x4 + 1) ∧ (x4 + 1) < σ (SCR + 1) 0) ∧ (-2147483648 ≤ (x4 + 2) ∧ (x4 + 2) ≤ 2147483647) ∧ (0 ≤ (x4 + 2) ∧ (x4 + 2) < σ (SCR + 1) 0) ∧ ((k + 2) ≤ 601024 ∧ (n + 12) ≤ 7293034) ∧ (∃ (v6 : Int) (s5 : Sg), Dd 409 [(.inr (.inr (some 0))), (.inl (σ SCR ((x4 + 1)).toNat)), (.inl (σ SCR ((x4 + 2)).toNat)), (.inr (.inr (some 726)))] σ (.inl (some (.inl v6)), s5) ∧ (-2147483648 ≤ (x4 + 1) ∧ (x4 + 1) ≤ 2147483647) ∧ (0 ≤ (x4 + 1) ∧ (x4 + 1) < s5 (SCR + 1) 0) ∧ (-2147483648 ≤ (x4 + 2) ∧ (x4 + 2) ≤ 2147483647) ∧ (0 ≤ (x4 + 2) ∧ (x4 + 2) < s5 (SCR + 1) 0) ∧ ((k + 2) ≤ 601024 ∧ (n + 12) ≤ 7293034) ∧ (∃ (v14 : Int) (s13 : Sg), Dd 316 [(.inr (.inr (some 682))), (.inl (s5 SCR ((x4 + 1)).toNat)), (.inl (s5 SCR ((x4 + 2)).toNat))] s5 (.inl (some (.inl v14)), s13) ∧ ((k + 2) ≤ 601024 ∧ (n + 12) ≤ 7293034) ∧ (∃ (v18 : Int) (s17 : Sg), Dd 244 [(.inr (.inr (some 682)))] s13 (.inl (some (.inl v18)), s17) ∧ (if v18 = v6 then (if v6 = 0 then (if (if v14 < (s17 726 (0 : Int).toNat) then 1 else if (s17 726 (0 : Int).toNat) = v14 then 0 else -1) = 0 then C0_1797 x4 (some (.inl v6)) (some (.inl v14)) (k + 2) (n + 12) s17 o else o = (.inl (some (.inl 0)), s17)) else C0_1797 x4 (some (.inl v6)) (some (.inl v14)) (k + 2) (n + 12) s17 o) else o = (.inl (some (.inl 0)), s17)))))) : C0_1732 x4 d5 d6 k n σ o := by
  show Gd 0 1732 [(some (.inr (.inr (some SCR)))), (some (.inr (.inr (some 0)))), (some (.inr (.inr (some 682)))), (some (.inr (.inr (some 726)))), (some (.inl x4)), d5, d6] [] σ k n o
  refine g_aload_n 1733 (show op 0 1732 = some (.aload_n 1, 1) by decide +kernel) rfl rfl ?_
  refine g_aload_n 1734 (show op 0 1733 = some (.aload_n 0, 1) by decide +kernel) rfl rfl ?_
  refine g_iload 1736 (show op 0 1734 = some (.iload 4, 2) by decide +kernel) rfl rfl ?_
  refine g_iconst 1737 (show op 0 1736 = some (.iconst 1, 1) by decide +kernel) rfl rfl ?_
  obtain ⟨g1, h⟩ := h
  refine g_iadd 1738 (show op 0 1737 = some (.iadd, 1) by decide +kernel) rfl g1 ?_
  obtain ⟨g2, h⟩ := h
  refine g_scr 1739 (show op 0 1738 = some (.iaload, 1) by decide +kernel) rfl g2 ?_
  refine g_aload_n 1740 (show op 0 1739 = some (.aload_n 0, 1) by decide +kernel) rfl rfl ?_
  refine g_iload 1742 (show op 0 1740 = some (.iload 4, 2) by decide +kernel) rfl rfl ?_
  refine g_iconst 1743 (show op 0 1742 = some (.iconst 2, 1) by decide +kernel) rfl rfl ?_
  obtain ⟨g3, h⟩ := h
  refine g_iadd 1744 (show op 0 1743 = some (.iadd, 1) by decide +kernel) rfl g3 ?_
  obtain ⟨g4, h⟩ := h
  refine g_scr 1745 (show op 0 1744 = some (.iaload, 1) by decide +kernel) rfl g4 ?_
  refine g_aload_n 1746 (show op 0 1745 = some (.aload_n 3, 1) by decide +kernel) rfl rfl ?_
  obtain ⟨g8, h⟩ := h
  obtain ⟨v6, s5, hD7, h⟩ := h
  refine g_call 1749 [(.inl v6)] (show op 0 1746 = some (.invokestatic 261, 3) by decide +kernel) (call_stL (c := 2) (s := 12) (nj := 4) (j := 409) (t := []) (as := [(.inr (.inr (some 0))), (.inl (σ SCR ((x4 + 1)).toNat)), (.inl (σ SCR ((x4 + 2)).toNat)), (.inr (.inr (some 726)))]) (by decide +kernel) rfl (by decide +kernel) g8 rfl rfl rfl rfl rfl) hD7 rfl ?_
  refine g_istore 1751 [(some (.inr (.inr (some SCR)))), (some (.inr (.inr (some 0)))), (some (.inr (.inr (some 682)))), (some (.inr (.inr (some 726)))), (some (.inl x4)), (some (.inl v6)), d6] (show op 0 1749 = some (.istore 5, 2) by decide +kernel) rfl rfl rfl ?_
  refine g_aload_n 1752 (show op 0 1751 = some (.aload_n 2, 1) by decide +kernel) rfl rfl ?_
  refine g_aload_n 1753 (show op 0 1752 = some (.aload_n 0, 1) by decide +kernel) rfl rfl ?_
  refine g_iload 1755 (show op 0 1753 = some (.iload 4, 2) by decide +kernel) rfl rfl ?_
  refine g_iconst 1756 (show op 0 1755 = some (.iconst 1, 1) by decide +kernel) rfl rfl ?_
  obtain ⟨g9, h⟩ := h
  refine g_iadd 1757 (show op 0 1756 = some (.iadd, 1) by decide +kernel) rfl g9 ?_
  obtain ⟨g10, h⟩ := h
  refine g_scr 1758 (show op 0 1757 = some (.iaload, 1) by decide +kernel) rfl g10 ?_
  refine g_aload_n 1759 (show op 0 1758 = some (.aload_n 0, 1) by decide +kernel) rfl rfl ?_
  refine g_iload 1761 (show op 0 1759 = some (.iload 4, 2) by decide +kernel) rfl rfl ?_
  refine g_iconst 1762 (show op 0 1761 = some (.iconst 2, 1) by decide +kernel) rfl rfl ?_
  obtain ⟨g11, h⟩ := h
  refine g_iadd 1763 (show op 0 1762 = some (.iadd, 1) by decide +kernel) rfl g11 ?_
  obtain ⟨g12, h⟩ := h
  refine g_scr 1764 (show op 0 1763 = some (.iaload, 1) by decide +kernel) rfl g12 ?_
  obtain ⟨g16, h⟩ := h
  obtain ⟨v14, s13, hD15, h⟩ := h
  refine g_call 1767 [(.inl v14)] (show op 0 1764 = some (.invokevirtual 263, 3) by decide +kernel) (call_viL (c := 0) (s := 0) (nj := 3) (j := 316) (k9 := 21) (t := []) (as := [(.inr (.inr (some 682))), (.inl (s5 SCR ((x4 + 1)).toNat)), (.inl (s5 SCR ((x4 + 2)).toNat))]) (by decide +kernel) rfl (by decide +kernel) g16 rfl rfl rfl rfl rfl rfl (by decide +kernel) (by decide +kernel)) hD15 rfl ?_
  refine g_istore 1769 [(some (.inr (.inr (some SCR)))), (some (.inr (.inr (some 0)))), (some (.inr (.inr (some 682)))), (some (.inr (.inr (some 726)))), (some (.inl x4)), (some (.inl v6)), (some (.inl v14))] (show op 0 1767 = some (.istore 6, 2) by decide +kernel) rfl rfl rfl ?_
  refine g_aload_n 1770 (show op 0 1769 = some (.aload_n 2, 1) by decide +kernel) rfl rfl ?_
  obtain ⟨g20, h⟩ := h
  obtain ⟨v18, s17, hD19, h⟩ := h
  refine g_call 1773 [(.inl v18)] (show op 0 1770 = some (.invokevirtual 194, 3) by decide +kernel) (call_viL (c := 0) (s := 0) (nj := 1) (j := 244) (k9 := 21) (t := []) (as := [(.inr (.inr (some 682)))]) (by decide +kernel) rfl (by decide +kernel) g20 rfl rfl rfl rfl rfl rfl (by decide +kernel) (by decide +kernel)) hD19 rfl ?_
  refine g_iload 1775 (show op 0 1773 = some (.iload 5, 2) by decide +kernel) rfl rfl ?_
  by_cases hc21 : v18 = v6
  · rw [if_pos hc21] at h
    refine g_icmpT 1780 (show op 0 1775 = some (.if_icmp .eq 5, 3) by decide +kernel) rfl (decide_eq_true hc21) ?_
    refine g_iload 1782 (show op 0 1780 = some (.iload 5, 2) by decide +kernel) rfl rfl ?_
    by_cases hc22 : v6 = 0
    · rw [if_pos hc22] at h
      refine g_ifF 1785 1797 (show op 0 1782 = some (.ifCond .ne 15, 3) by decide +kernel) rfl rfl (decide_eq_false (fun h9 => h9 hc22)) ?_
      refine g_aload_n 1786 (show op 0 1785 = some (.aload_n 3, 1) by decide +kernel) rfl rfl ?_
      refine g_iconst 1787 (show op 0 1786 = some (.iconst 0, 1) by decide +kernel) rfl rfl ?_
      refine g_laload 1788 1 (show op 0 1787 = some (.laload, 1) by decide +kernel) rfl (by decide +kernel) (by decide) ?_
      refine g_iload 1790 (show op 0 1788 = some (.iload 6, 2) by decide +kernel) rfl rfl ?_
      refine g_i2l 1791 (show op 0 1790 = some (.i2l, 1) by decide +kernel) rfl ?_
      refine g_lcmp 1792 (show op 0 1791 = some (.lcmp, 1) by decide +kernel) rfl ?_
      by_cases hc23 : (if v14 < (s17 726 (0 : Int).toNat) then 1 else if (s17 726 (0 : Int).toNat) = v14 then 0 else -1) = 0
      · rw [if_pos hc23] at h
        refine g_ifT 1797 (show op 0 1792 = some (.ifCond .eq 5, 3) by decide +kernel) rfl (decide_eq_true hc23) ?_
        exact h
      · rw [if_neg hc23] at h
        refine g_ifF 1795 1797 (show op 0 1792 = some (.ifCond .eq 5, 3) by decide +kernel) rfl rfl (decide_eq_false hc23) ?_
        refine g_iconst 1796 (show op 0 1795 = some (.iconst 0, 1) by decide +kernel) rfl rfl ?_
        exact (g_zret (show op 0 1796 = some (.ireturn, 1) by decide +kernel) (by decide +kernel) (by decide) h)
    · rw [if_neg hc22] at h
      refine g_ifT 1797 (show op 0 1782 = some (.ifCond .ne 15, 3) by decide +kernel) rfl (decide_eq_true hc22) ?_
      exact h
  · rw [if_neg hc21] at h
    refine g_icmpF 1778 1780 (show op 0 1775 = some (.if_icmp .eq 5, 3) by decide +kernel) rfl rfl (decide_eq_false hc21) ?_
    refine g_iconst 1779 (show op 0 1778 = some (.iconst 0, 1) by decide +kernel) rfl rfl ?_
    exact (g_zret (show op 0 1779 = some (.ireturn, 1) by decide +kernel) (by decide +kernel) (by decide) h)
theorem b0_1800 {x4 : Int} {d5 : Option AV} {d6 : Option AV} {k : Nat} {n : Nat} {σ : Sg} {o : Rs} (h : (-2147483648 ≤ (x4 + 1) ∧ (x4 + 1) ≤ 2147483647) ∧ (0 ≤ (x4 + 1) ∧ (x4 + 1) < σ (SCR + 1) 0) ∧ (-2147483648 ≤ (x4 + 2) ∧ (x4 + 2) ≤ 2147483647) ∧ (0 ≤ (x4 + 2) ∧ (x4 + 2) < σ (SCR + 1) 0) ∧ ((k + 2) ≤ 601024 ∧ (n + 12) ≤ 7293034) ∧ (∃ (v6 : Int) (s5 : Sg), Dd 410 [(.inr (.inr (some 0))), (.inl (σ SCR ((x4 + 1)).toNat)), (.inl (σ SCR ((x4 + 2)).toNat)), (.inr (.inr (some 726)))] σ (.inl (some (.inl v6)), s5) ∧ (-2147483648 ≤ (x4 + 1) ∧ (x4 + 1) ≤ 2147483647) ∧ (0 ≤ (x4 + 1) ∧ (x4 + 1) < s5 (SCR + 1) 0) ∧ (-2147483648 ≤ (x4 + 2) ∧ (x4 + 2) ≤ 2147483647) ∧ (0 ≤ (x4 + 2) ∧ (x4 + 2) < s5 (SCR + 1) 0) ∧ ((k + 2) ≤ 601024 ∧ (n + 12) ≤ 7293034) ∧ (∃ (v14 : Int) (s13 : Sg), Dd 317 [(.inr (.inr (some 682))), (.inl (s5 SCR ((x4 + 1)).toNat)), (.inl (s5 SCR ((x4 + 2)).toNat))] s5 (.inl (some (.inl v14)), s13) ∧ ((k + 2) ≤ 601024 ∧ (n + 12) ≤ 7293034) ∧ (∃ (v18 : Int) (s17 : Sg), Dd 244 [(.inr (.inr (some 682)))] s13 (.inl (some (.inl v18)), s17) ∧ (if v18 = v6 then (if v6 = 0 then C0_1866 x4 (some (.inl v6)) (some (.inl v14)) (s17 726 (0 : Int).toNat) (if v14 = 0 then 0 else 1) (k + 2) (n + 12) s17 o else C0_1872 x4 (some (.inl v6)) (some (.inl v14)) (k + 2) (n + 12) s17 o) else o = (.inl (some (.inl 0)), s17)))))) : C0_1800 x4 d5 d6 k n σ o := by
  show Gd 0 1800 [(some (.inr (.inr (some SCR)))), (some (.inr (.inr (some 0)))), (some (.inr (.inr (some 682)))), (some (.inr (.inr (some 726)))), (some (.inl x4)), d5, d6] [] σ k n o
  refine g_aload_n 1801 (show op 0 1800 = some (.aload_n 1, 1) by decide +kernel) rfl rfl ?_
  refine g_aload_n 1802 (show op 0 1801 = some (.aload_n 0, 1) by decide +kernel) rfl rfl ?_
  refine g_iload 1804 (show op 0 1802 = some (.iload 4, 2) by decide +kernel) rfl rfl ?_
  refine g_iconst 1805 (show op 0 1804 = some (.iconst 1, 1) by decide +kernel) rfl rfl ?_
  obtain ⟨g1, h⟩ := h
  refine g_iadd 1806 (show op 0 1805 = some (.iadd, 1) by decide +kernel) rfl g1 ?_
  obtain ⟨g2, h⟩ := h
  refine g_scr 1807 (show op 0 1806 = some (.iaload, 1) by decide +kernel) rfl g2 ?_
  refine g_aload_n 1808 (show op 0 1807 = some (.aload_n 0, 1) by decide +kernel) rfl rfl ?_
  refine g_iload 1810 (show op 0 1808 = some (.iload 4, 2) by decide +kernel) rfl rfl ?_
  refine g_iconst 1811 (show op 0 1810 = some (.iconst 2, 1) by decide +kernel) rfl rfl ?_
  obtain ⟨g3, h⟩ := h
  refine g_iadd 1812 (show op 0 1811 = some (.iadd, 1) by decide +kernel) rfl g3 ?_
  obtain ⟨g4, h⟩ := h
  refine g_scr 1813 (show op 0 1812 = some (.iaload, 1) by decide +kernel) rfl g4 ?_
  refine g_aload_n 1814 (show op 0 1813 = some (.aload_n 3, 1) by decide +kernel) rfl rfl ?_
  obtain ⟨g8, h⟩ := h
  obtain ⟨v6, s5, hD7, h⟩ := h
  refine g_call 1817 [(.inl v6)] (show op 0 1814 = some (.invokestatic 264, 3) by decide +kernel) (call_stL (c := 2) (s := 12) (nj := 4) (j := 410) (t := []) (as := [(.inr (.inr (some 0))), (.inl (σ SCR ((x4 + 1)).toNat)), (.inl (σ SCR ((x4 + 2)).toNat)), (.inr (.inr (some 726)))]) (by decide +kernel) rfl (by decide +kernel) g8 rfl rfl rfl rfl rfl) hD7 rfl ?_
  refine g_istore 1819 [(some (.inr (.inr (some SCR)))), (some (.inr (.inr (some 0)))), (some (.inr (.inr (some 682)))), (some (.inr (.inr (some 726)))), (some (.inl x4)), (some (.inl v6)), d6] (show op 0 1817 = some (.istore 5, 2) by decide +kernel) rfl rfl rfl ?_
  refine g_aload_n 1820 (show op 0 1819 = some (.aload_n 2, 1) by decide +kernel) rfl rfl ?_
  refine g_aload_n 1821 (show op 0 1820 = some (.aload_n 0, 1) by decide +kernel) rfl rfl ?_
  refine g_iload 1823 (show op 0 1821 = some (.iload 4, 2) by decide +kernel) rfl rfl ?_
  refine g_iconst 1824 (show op 0 1823 = some (.iconst 1, 1) by decide +kernel) rfl rfl ?_
  obtain ⟨g9, h⟩ := h
  refine g_iadd 1825 (show op 0 1824 = some (.iadd, 1) by decide +kernel) rfl g9 ?_
  obtain ⟨g10, h⟩ := h
  refine g_scr 1826 (show op 0 1825 = some (.iaload, 1) by decide +kernel) rfl g10 ?_
  refine g_aload_n 1827 (show op 0 1826 = some (.aload_n 0, 1) by decide +kernel) rfl rfl ?_
  refine g_iload 1829 (show op 0 1827 = some (.iload 4, 2) by decide +kernel) rfl rfl ?_
  refine g_iconst 1830 (show op 0 1829 = some (.iconst 2, 1) by decide +kernel) rfl rfl ?_
  obtain ⟨g11, h⟩ := h
  refine g_iadd 1831 (show op 0 1830 = some (.iadd, 1) by decide +kernel) rfl g11 ?_
  obtain ⟨g12, h⟩ := h
  refine g_scr 1832 (show op 0 1831 = some (.iaload, 1) by decide +kernel) rfl g12 ?_
  obtain ⟨g16, h⟩ := h
  obtain ⟨v14, s13, hD15, h⟩ := h
  refine g_call 1835 [(.inl v14)] (show op 0 1832 = some (.invokevirtual 266, 3) by decide +kernel) (call_viL (c := 0) (s := 0) (nj := 3) (j := 317) (k9 := 21) (t := []) (as := [(.inr (.inr (some 682))), (.inl (s5 SCR ((x4 + 1)).toNat)), (.inl (s5 SCR ((x4 + 2)).toNat))]) (by decide +kernel) rfl (by decide +kernel) g16 rfl rfl rfl rfl rfl rfl (by decide +kernel) (by decide +kernel)) hD15 rfl ?_
  refine g_istore 1837 [(some (.inr (.inr (some SCR)))), (some (.inr (.inr (some 0)))), (some (.inr (.inr (some 682)))), (some (.inr (.inr (some 726)))), (some (.inl x4)), (some (.inl v6)), (some (.inl v14))] (show op 0 1835 = some (.istore 6, 2) by decide +kernel) rfl rfl rfl ?_
  refine g_aload_n 1838 (show op 0 1837 = some (.aload_n 2, 1) by decide +kernel) rfl rfl ?_
  obtain ⟨g20, h⟩ := h
  obtain ⟨v18, s17, hD19, h⟩ := h
  refine g_call 1841 [(.inl v18)] (show op 0 1838 = some (.invokevirtual 194, 3) by decide +kernel) (call_viL (c := 0) (s := 0) (nj := 1) (j := 244) (k9 := 21) (t := []) (as := [(.inr (.inr (some 682)))]) (by decide +kernel) rfl (by decide +kernel) g20 rfl rfl rfl rfl rfl rfl (by decide +kernel) (by decide +kernel)) hD19 rfl ?_
  refine g_iload 1843 (show op 0 1841 = some (.iload 5, 2) by decide +kernel) rfl rfl ?_
  by_cases hc21 : v18 = v6
  · rw [if_pos hc21] at h
    refine g_icmpT 1848 (show op 0 1843 = some (.if_icmp .eq 5, 3) by decide +kernel) rfl (decide_eq_true hc21) ?_
    refine g_iload 1850 (show op 0 1848 = some (.iload 5, 2) by decide +kernel) rfl rfl ?_
    by_cases hc22 : v6 = 0
    · rw [if_pos hc22] at h
      refine g_ifF 1853 1872 (show op 0 1850 = some (.ifCond .ne 22, 3) by decide +kernel) rfl rfl (decide_eq_false (fun h9 => h9 hc22)) ?_
      refine g_aload_n 1854 (show op 0 1853 = some (.aload_n 3, 1) by decide +kernel) rfl rfl ?_
      refine g_iconst 1855 (show op 0 1854 = some (.iconst 0, 1) by decide +kernel) rfl rfl ?_
      refine g_laload 1856 1 (show op 0 1855 = some (.laload, 1) by decide +kernel) rfl (by decide +kernel) (by decide) ?_
      refine g_iload 1858 (show op 0 1856 = some (.iload 6, 2) by decide +kernel) rfl rfl ?_
      by_cases hc23 : v14 = 0
      · refine g_ifT 1865 (show op 0 1858 = some (.ifCond .eq 7, 3) by decide +kernel) rfl (decide_eq_true hc23) ?_
        refine g_lconst 1866 (show op 0 1865 = some (.lconst 0, 1) by decide +kernel) rfl ?_
        have h9 := h; simp only [if_pos hc23] at h9; exact h9
      · refine g_ifF 1861 1865 (show op 0 1858 = some (.ifCond .eq 7, 3) by decide +kernel) rfl rfl (decide_eq_false hc23) ?_
        refine g_lconst 1862 (show op 0 1861 = some (.lconst 1, 1) by decide +kernel) rfl ?_
        refine g_goto 1866 (show op 0 1862 = some (.goto 4, 3) by decide +kernel) rfl ?_
        have h9 := h; simp only [if_neg hc23] at h9; exact h9
    · rw [if_neg hc22] at h
      refine g_ifT 1872 (show op 0 1850 = some (.ifCond .ne 22, 3) by decide +kernel) rfl (decide_eq_true hc22) ?_
      exact h
  · rw [if_neg hc21] at h
    refine g_icmpF 1846 1848 (show op 0 1843 = some (.if_icmp .eq 5, 3) by decide +kernel) rfl rfl (decide_eq_false hc21) ?_
    refine g_iconst 1847 (show op 0 1846 = some (.iconst 0, 1) by decide +kernel) rfl rfl ?_
    exact (g_zret (show op 0 1847 = some (.ireturn, 1) by decide +kernel) (by decide +kernel) (by decide) h)
theorem b0_1875 {x4 : Int} {d5 : Option AV} {d6 : Option AV} {k : Nat} {n : Nat} {σ : Sg} {o : Rs} (h : (-2147483648 ≤ (x4 + 1) ∧ (x4 + 1) ≤ 2147483647) ∧ (0 ≤ (x4 + 1) ∧ (x4 + 1) < σ (SCR + 1) 0) ∧ (-2147483648 ≤ (x4 + 2) ∧ (x4 + 2) ≤ 2147483647) ∧ (0 ≤ (x4 + 2) ∧ (x4 + 2) < σ (SCR + 1) 0) ∧ ((k + 2) ≤ 601024 ∧ (n + 12) ≤ 7293034) ∧ (∃ (v6 : Int) (s5 : Sg), Dd 411 [(.inr (.inr (some 0))), (.inl (σ SCR ((x4 + 1)).toNat)), (.inl (σ SCR ((x4 + 2)).toNat)), (.inr (.inr (some 726)))] σ (.inl (some (.inl v6)), s5) ∧ (-2147483648 ≤ (x4 + 1) ∧ (x4 + 1) ≤ 2147483647) ∧ (0 ≤ (x4 + 1) ∧ (x4 + 1) < s5 (SCR + 1) 0) ∧ (-2147483648 ≤ (x4 + 2) ∧ (x4 + 2) ≤ 2147483647) ∧ (0 ≤ (x4 + 2) ∧ (x4 + 2) < s5 (SCR + 1) 0) ∧ ((k + 2) ≤ 601024 ∧ (n + 12) ≤ 7293034) ∧ (∃ (v14 : Int) (s13 : Sg), Dd 320 [(.inr (.inr (some 682))), (.inl (s5 SCR ((x4 + 1)).toNat)), (.inl (s5 SCR ((x4 + 2)).toNat))] s5 (.inl (some (.inl v14)), s13) ∧ ((k + 2) ≤ 601024 ∧ (n + 12) ≤ 7293034) ∧ (∃ (v18 : Int) (s17 : Sg), Dd 244 [(.inr (.inr (some 682)))] s13 (.inl (some (.inl v18)), s17) ∧ (if v18 = v6 then (if v6 = 0 then (if (if v14 < (s17 726 (0 : Int).toNat) then 1 else if (s17 726 (0 : Int).toNat) = v14 then 0 else -1) = 0 then C0_1940 x4 (some (.inl v6)) (some (.inl v14)) (k + 2) (n + 12) s17 o else o = (.inl (some (.inl 0)), s17)) else C0_1940 x4 (some (.inl v6)) (some (.inl v14)) (k + 2) (n + 12) s17 o) else o = (.inl (some (.inl 0)), s17)))))) : C0_1875 x4 d5 d6 k n σ o := by
  show Gd 0 1875 [(some (.inr (.inr (some SCR)))), (some (.inr (.inr (some 0)))), (some (.inr (.inr (some 682)))), (some (.inr (.inr (some 726)))), (some (.inl x4)), d5, d6] [] σ k n o
  refine g_aload_n 1876 (show op 0 1875 = some (.aload_n 1, 1) by decide +kernel) rfl rfl ?_
  refine g_aload_n 1877 (show op 0 1876 = some (.aload_n 0, 1) by decide +kernel) rfl rfl ?_
  refine g_iload 1879 (show op 0 1877 = some (.iload 4, 2) by decide +kernel) rfl rfl ?_
  refine g_iconst 1880 (show op 0 1879 = some (.iconst 1, 1) by decide +kernel) rfl rfl ?_
  obtain ⟨g1, h⟩ := h
  refine g_iadd 1881 (show op 0 1880 = some (.iadd, 1) by decide +kernel) rfl g1 ?_
  obtain ⟨g2, h⟩ := h
  refine g_scr 1882 (show op 0 1881 = some (.iaload, 1) by decide +kernel) rfl g2 ?_
  refine g_aload_n 1883 (show op 0 1882 = some (.aload_n 0, 1) by decide +kernel) rfl rfl ?_
  refine g_iload 1885 (show op 0 1883 = some (.iload 4, 2) by decide +kernel) rfl rfl ?_
  refine g_iconst 1886 (show op 0 1885 = some (.iconst 2, 1) by decide +kernel) rfl rfl ?_
  obtain ⟨g3, h⟩ := h
  refine g_iadd 1887 (show op 0 1886 = some (.iadd, 1) by decide +kernel) rfl g3 ?_
  obtain ⟨g4, h⟩ := h
  refine g_scr 1888 (show op 0 1887 = some (.iaload, 1) by decide +kernel) rfl g4 ?_
  refine g_aload_n 1889 (show op 0 1888 = some (.aload_n 3, 1) by decide +kernel) rfl rfl ?_
  obtain ⟨g8, h⟩ := h
  obtain ⟨v6, s5, hD7, h⟩ := h
  refine g_call 1892 [(.inl v6)] (show op 0 1889 = some (.invokestatic 267, 3) by decide +kernel) (call_stL (c := 2) (s := 12) (nj := 4) (j := 411) (t := []) (as := [(.inr (.inr (some 0))), (.inl (σ SCR ((x4 + 1)).toNat)), (.inl (σ SCR ((x4 + 2)).toNat)), (.inr (.inr (some 726)))]) (by decide +kernel) rfl (by decide +kernel) g8 rfl rfl rfl rfl rfl) hD7 rfl ?_
  refine g_istore 1894 [(some (.inr (.inr (some SCR)))), (some (.inr (.inr (some 0)))), (some (.inr (.inr (some 682)))), (some (.inr (.inr (some 726)))), (some (.inl x4)), (some (.inl v6)), d6] (show op 0 1892 = some (.istore 5, 2) by decide +kernel) rfl rfl rfl ?_
  refine g_aload_n 1895 (show op 0 1894 = some (.aload_n 2, 1) by decide +kernel) rfl rfl ?_
  refine g_aload_n 1896 (show op 0 1895 = some (.aload_n 0, 1) by decide +kernel) rfl rfl ?_
  refine g_iload 1898 (show op 0 1896 = some (.iload 4, 2) by decide +kernel) rfl rfl ?_
  refine g_iconst 1899 (show op 0 1898 = some (.iconst 1, 1) by decide +kernel) rfl rfl ?_
  obtain ⟨g9, h⟩ := h
  refine g_iadd 1900 (show op 0 1899 = some (.iadd, 1) by decide +kernel) rfl g9 ?_
  obtain ⟨g10, h⟩ := h
  refine g_scr 1901 (show op 0 1900 = some (.iaload, 1) by decide +kernel) rfl g10 ?_
  refine g_aload_n 1902 (show op 0 1901 = some (.aload_n 0, 1) by decide +kernel) rfl rfl ?_
  refine g_iload 1904 (show op 0 1902 = some (.iload 4, 2) by decide +kernel) rfl rfl ?_
  refine g_iconst 1905 (show op 0 1904 = some (.iconst 2, 1) by decide +kernel) rfl rfl ?_
  obtain ⟨g11, h⟩ := h
  refine g_iadd 1906 (show op 0 1905 = some (.iadd, 1) by decide +kernel) rfl g11 ?_
  obtain ⟨g12, h⟩ := h
  refine g_scr 1907 (show op 0 1906 = some (.iaload, 1) by decide +kernel) rfl g12 ?_
  obtain ⟨g16, h⟩ := h
  obtain ⟨v14, s13, hD15, h⟩ := h
  refine g_call 1910 [(.inl v14)] (show op 0 1907 = some (.invokevirtual 269, 3) by decide +kernel) (call_viL (c := 0) (s := 0) (nj := 3) (j := 320) (k9 := 21) (t := []) (as := [(.inr (.inr (some 682))), (.inl (s5 SCR ((x4 + 1)).toNat)), (.inl (s5 SCR ((x4 + 2)).toNat))]) (by decide +kernel) rfl (by decide +kernel) g16 rfl rfl rfl rfl rfl rfl (by decide +kernel) (by decide +kernel)) hD15 rfl ?_
  refine g_istore 1912 [(some (.inr (.inr (some SCR)))), (some (.inr (.inr (some 0)))), (some (.inr (.inr (some 682)))), (some (.inr (.inr (some 726)))), (some (.inl x4)), (some (.inl v6)), (some (.inl v14))] (show op 0 1910 = some (.istore 6, 2) by decide +kernel) rfl rfl rfl ?_
  refine g_aload_n 1913 (show op 0 1912 = some (.aload_n 2, 1) by decide +kernel) rfl rfl ?_
  obtain ⟨g20, h⟩ := h
  obtain ⟨v18, s17, hD19, h⟩ := h
  refine g_call 1916 [(.inl v18)] (show op 0 1913 = some (.invokevirtual 194, 3) by decide +kernel) (call_viL (c := 0) (s := 0) (nj := 1) (j := 244) (k9 := 21) (t := []) (as := [(.inr (.inr (some 682)))]) (by decide +kernel) rfl (by decide +kernel) g20 rfl rfl rfl rfl rfl rfl (by decide +kernel) (by decide +kernel)) hD19 rfl ?_
  refine g_iload 1918 (show op 0 1916 = some (.iload 5, 2) by decide +kernel) rfl rfl ?_
  by_cases hc21 : v18 = v6
  · rw [if_pos hc21] at h
    refine g_icmpT 1923 (show op 0 1918 = some (.if_icmp .eq 5, 3) by decide +kernel) rfl (decide_eq_true hc21) ?_
    refine g_iload 1925 (show op 0 1923 = some (.iload 5, 2) by decide +kernel) rfl rfl ?_
    by_cases hc22 : v6 = 0
    · rw [if_pos hc22] at h
      refine g_ifF 1928 1940 (show op 0 1925 = some (.ifCond .ne 15, 3) by decide +kernel) rfl rfl (decide_eq_false (fun h9 => h9 hc22)) ?_
      refine g_aload_n 1929 (show op 0 1928 = some (.aload_n 3, 1) by decide +kernel) rfl rfl ?_
      refine g_iconst 1930 (show op 0 1929 = some (.iconst 0, 1) by decide +kernel) rfl rfl ?_
      refine g_laload 1931 1 (show op 0 1930 = some (.laload, 1) by decide +kernel) rfl (by decide +kernel) (by decide) ?_
      refine g_iload 1933 (show op 0 1931 = some (.iload 6, 2) by decide +kernel) rfl rfl ?_
      refine g_i2l 1934 (show op 0 1933 = some (.i2l, 1) by decide +kernel) rfl ?_
      refine g_lcmp 1935 (show op 0 1934 = some (.lcmp, 1) by decide +kernel) rfl ?_
      by_cases hc23 : (if v14 < (s17 726 (0 : Int).toNat) then 1 else if (s17 726 (0 : Int).toNat) = v14 then 0 else -1) = 0
      · rw [if_pos hc23] at h
        refine g_ifT 1940 (show op 0 1935 = some (.ifCond .eq 5, 3) by decide +kernel) rfl (decide_eq_true hc23) ?_
        exact h
      · rw [if_neg hc23] at h
        refine g_ifF 1938 1940 (show op 0 1935 = some (.ifCond .eq 5, 3) by decide +kernel) rfl rfl (decide_eq_false hc23) ?_
        refine g_iconst 1939 (show op 0 1938 = some (.iconst 0, 1) by decide +kernel) rfl rfl ?_
        exact (g_zret (show op 0 1939 = some (.ireturn, 1) by decide +kernel) (by decide +kernel) (by decide) h)
    · rw [if_neg hc22] at h
      refine g_ifT 1940 (show op 0 1925 = some (.ifCond .ne 15, 3) by decide +kernel) rfl (decide_eq_true hc22) ?_
      exact h
  · rw [if_neg hc21] at h
    refine g_icmpF 1921 1923 (show op 0 1918 = some (.if_icmp .eq 5, 3) by decide +kernel) rfl rfl (decide_eq_false hc21) ?_
    refine g_iconst 1922 (show op 0 1921 = some (.iconst 0, 1) by decide +kernel) rfl rfl ?_
    exact (g_zret (show op 0 1922 = some (.ireturn, 1) by decide +kernel) (by decide +kernel) (by decide) h)
theorem b0_1943 {x4 : Int} {d5 : Option AV} {d6 : Option AV} {k : Nat} {n : Nat} {σ : Sg} {o : Rs} (h : (-2147483648 ≤ (x4 + 1) ∧ (x4 + 1) ≤ 2147483647) ∧ (0 ≤ (x4 + 1) ∧ (x4 + 1) < σ (SCR + 1) 0) ∧ (-2147483648 ≤ (x4 + 2) ∧ (x4 + 2) ≤ 2147483647) ∧ (0 ≤ (x4 + 2) ∧ (x4 + 2) < σ (SCR + 1) 0) ∧ (-2147483648 ≤ (x4 + 3) ∧ (x4 + 3) ≤ 2147483647) ∧ (0 ≤ (x4 + 3) ∧ (x4 + 3) < σ (SCR + 1) 0) ∧ ((k + 4) ≤ 601024 ∧ (n + 24) ≤ 7293034) ∧ (∃ (v8 : Int) (s7 : Sg), Dd 412 [(.inr (.inr (some 0))), (.inl (σ SCR ((x4 + 1)).toNat)), (.inl (σ SCR ((x4 + 2)).toNat)), (.inl (σ SCR ((x4 + 3)).toNat)), (.inr (.inr (some 726)))] σ (.inl (some (.inl v8)), s7) ∧ (-2147483648 ≤ (x4 + 1) ∧ (x4 + 1) ≤ 2147483647) ∧ (0 ≤ (x4 + 1) ∧ (x4 + 1) < s7 (SCR + 1) 0) ∧ (-2147483648 ≤ (x4 + 2) ∧ (x4 + 2) ≤ 2147483647) ∧ (0 ≤ (x4 + 2) ∧ (x4 + 2) < s7 (SCR + 1) 0) ∧ (-2147483648 ≤ (x4 + 3) ∧ (x4 + 3) ≤ 2147483647) ∧ (0 ≤ (x4 + 3) ∧ (x4 + 3) < s7 (SCR + 1) 0) ∧ ((k + 4) ≤ 601024 ∧ (n + 24) ≤ 7293034) ∧ (∃ (v18 : Int) (s17 : Sg), Dd 326 [(.inr (.inr (some 682))), (.inl (s7 SCR ((x4 + 1)).toNat)), (.inl (s7 SCR ((x4 + 2)).toNat)), (.inl (s7 SCR ((x4 + 3)).toNat))] s7 (.inl (some (.inl v18)), s17) ∧ ((k + 4) ≤ 601024 ∧ (n + 24) ≤ 7293034) ∧ (∃ (v22 : Int) (s21 : Sg), Dd 244 [(.inr (.inr (some 682)))] s17 (.inl (some (.inl v22)), s21) ∧ (if v22 = v8 then (if v8 = 0 then (if (if v18 < (s21 726 (0 : Int).toNat) then 1 else if (s21 726 (0 : Int).toNat) = v18 then 0 else -1) = 0 then C0_2020 x4 (some (.inl v8)) (some (.inl v18)) (k + 4) (n + 24) s21 o else o = (.inl (some (.inl 0)), s21)) else C0_2020 x4 (some (.inl v8)) (some (.inl v18)) (k + 4) (n + 24) s21 o) else o = (.inl (some (.inl 0)), s21)))))) : C0_1943 x4 d5 d6 k n σ o := by
  show Gd 0 1943 [(some (.inr (.inr (some SCR)))), (some (.inr (.inr (some 0)))), (some (.inr (.inr (some 682)))), (some (.inr (.inr (some 726)))), (some (.inl x4)), d5, d6] [] σ k n o
  refine g_aload_n 1944 (show op 0 1943 = some (.aload_n 1, 1) by decide +kernel) rfl rfl ?_
  refine g_aload_n 1945 (show op 0 1944 = some (.aload_n 0, 1) by decide +kernel) rfl rfl ?_
  refine g_iload 1947 (show op 0 1945 = some (.iload 4, 2) by decide +kernel) rfl rfl ?_
  refine g_iconst 1948 (show op 0 1947 = some (.iconst 1, 1) by decide +kernel) rfl rfl ?_
  obtain ⟨g1, h⟩ := h
  refine g_iadd 1949 (show op 0 1948 = some (.iadd, 1) by decide +kernel) rfl g1 ?_
  obtain ⟨g2, h⟩ := h
  refine g_scr 1950 (show op 0 1949 = some (.iaload, 1) by decide +kernel) rfl g2 ?_
  refine g_aload_n 1951 (show op 0 1950 = some (.aload_n 0, 1) by decide +kernel) rfl rfl ?_
  refine g_iload 1953 (show op 0 1951 = some (.iload 4, 2) by decide +kernel) rfl rfl ?_
  refine g_iconst 1954 (show op 0 1953 = some (.iconst 2, 1) by decide +kernel) rfl rfl ?_
  obtain ⟨g3, h⟩ := h
  refine g_iadd 1955 (show op 0 1954 = some (.iadd, 1) by decide +kernel) rfl g3 ?_
  obtain ⟨g4, h⟩ := h
  refine g_scr 1956 (show op 0 1955 = some (.iaload, 1) by decide +kernel) rfl g4 ?_
  refine g_aload_n 1957 (show op 0 1956 = some (.aload_n 0, 1) by decide +kernel) rfl rfl ?_
  refine g_iload 1959 (show op 0 1957 = some (.iload 4, 2) by decide +kernel) rfl rfl ?_
  refine g_iconst 1960 (show op 0 1959 = some (.iconst 3, 1) by decide +kernel) rfl rfl ?_
  obtain ⟨g5, h⟩ := h
  refine g_iadd 1961 (show op 0 1960 = some (.iadd, 1) by decide +kernel) rfl g5 ?_
  obtain ⟨g6, h⟩ := h
  refine g_scr 1962 (show op 0 1961 = some (.iaload, 1) by decide +kernel) rfl g6 ?_
  refine g_aload_n 1963 (show op 0 1962 = some (.aload_n 3, 1) by decide +kernel) rfl rfl ?_
  obtain ⟨g10, h⟩ := h
  obtain ⟨v8, s7, hD9, h⟩ := h
  refine g_call 1966 [(.inl v8)] (show op 0 1963 = some (.invokestatic 270, 3) by decide +kernel) (call_stL (c := 4) (s := 24) (nj := 5) (j := 412) (t := []) (as := [(.inr (.inr (some 0))), (.inl (σ SCR ((x4 + 1)).toNat)), (.inl (σ SCR ((x4 + 2)).toNat)), (.inl (σ SCR ((x4 + 3)).toNat)), (.inr (.inr (some 726)))]) (by decide +kernel) rfl (by decide +kernel) g10 rfl rfl rfl rfl rfl) hD9 rfl ?_
  refine g_istore 1968 [(some (.inr (.inr (some SCR)))), (some (.inr (.inr (some 0)))), (some (.inr (.inr (some 682)))), (some (.inr (.inr (some 726)))), (some (.inl x4)), (some (.inl v8)), d6] (show op 0 1966 = some (.istore 5, 2) by decide +kernel) rfl rfl rfl ?_
  refine g_aload_n 1969 (show op 0 1968 = some (.aload_n 2, 1) by decide +kernel) rfl rfl ?_
  refine g_aload_n 1970 (show op 0 1969 = some (.aload_n 0, 1) by decide +kernel) rfl rfl ?_
  refine g_iload 1972 (show op 0 1970 = some (.iload 4, 2) by decide +kernel) rfl rfl ?_
  refine g_iconst 1973 (show op 0 1972 = some (.iconst 1, 1) by decide +kernel) rfl rfl ?_
  obtain ⟨g11, h⟩ := h
  refine g_iadd 1974 (show op 0 1973 = some (.iadd, 1) by decide +kernel) rfl g11 ?_
  obtain ⟨g12, h⟩ := h
  refine g_scr 1975 (show op 0 1974 = some (.iaload, 1) by decide +kernel) rfl g12 ?_
  refine g_aload_n 1976 (show op 0 1975 = some (.aload_n 0, 1) by decide +kernel) rfl rfl ?_
  refine g_iload 1978 (show op 0 1976 = some (.iload 4, 2) by decide +kernel) rfl rfl ?_
  refine g_iconst 1979 (show op 0 1978 = some (.iconst 2, 1) by decide +kernel) rfl rfl ?_
  obtain ⟨g13, h⟩ := h
  refine g_iadd 1980 (show op 0 1979 = some (.iadd, 1) by decide +kernel) rfl g13 ?_
  obtain ⟨g14, h⟩ := h
  refine g_scr 1981 (show op 0 1980 = some (.iaload, 1) by decide +kernel) rfl g14 ?_
  refine g_aload_n 1982 (show op 0 1981 = some (.aload_n 0, 1) by decide +kernel) rfl rfl ?_
  refine g_iload 1984 (show op 0 1982 = some (.iload 4, 2) by decide +kernel) rfl rfl ?_
  refine g_iconst 1985 (show op 0 1984 = some (.iconst 3, 1) by decide +kernel) rfl rfl ?_
  obtain ⟨g15, h⟩ := h
  refine g_iadd 1986 (show op 0 1985 = some (.iadd, 1) by decide +kernel) rfl g15 ?_
  obtain ⟨g16, h⟩ := h
  refine g_scr 1987 (show op 0 1986 = some (.iaload, 1) by decide +kernel) rfl g16 ?_
  obtain ⟨g20, h⟩ := h
  obtain ⟨v18, s17, hD19, h⟩ := h
  refine g_call 1990 [(.inl v18)] (show op 0 1987 = some (.invokevirtual 272, 3) by decide +kernel) (call_viL (c := 0) (s := 0) (nj := 4) (j := 326) (k9 := 21) (t := []) (as := [(.inr (.inr (some 682))), (.inl (s7 SCR ((x4 + 1)).toNat)), (.inl (s7 SCR ((x4 + 2)).toNat)), (.inl (s7 SCR ((x4 + 3)).toNat))]) (by decide +kernel) rfl (by decide +kernel) g20 rfl rfl rfl rfl rfl rfl (by decide +kernel) (by decide +kernel)) hD19 rfl ?_
  refine g_istore 1992 [(some (.inr (.inr (some SCR)))), (some (.inr (.inr (some 0)))), (some (.inr (.inr (some 682)))), (some (.inr (.inr (some 726)))), (some (.inl x4)), (some (.inl v8)), (some (.inl v18))] (show op 0 1990 = some (.istore 6, 2) by decide +kernel) rfl rfl rfl ?_
  refine g_aload_n 1993 (show op 0 1992 = some (.aload_n 2, 1) by decide +kernel) rfl rfl ?_
  obtain ⟨g24, h⟩ := h
  obtain ⟨v22, s21, hD23, h⟩ := h
  refine g_call 1996 [(.inl v22)] (show op 0 1993 = some (.invokevirtual 194, 3) by decide +kernel) (call_viL (c := 0) (s := 0) (nj := 1) (j := 244) (k9 := 21) (t := []) (as := [(.inr (.inr (some 682)))]) (by decide +kernel) rfl (by decide +kernel) g24 rfl rfl rfl rfl rfl rfl (by decide +kernel) (by decide +kernel)) hD23 rfl ?_
  refine g_iload 1998 (show op 0 1996 = some (.iload 5, 2) by decide +kernel) rfl rfl ?_
  by_cases hc25 : v22 = v8
  · rw [if_pos hc25] at h
    refine g_icmpT 2003 (show op 0 1998 = some (.if_icmp .eq 5, 3) by decide +kernel) rfl (decide_eq_true hc25) ?_
    refine g_iload 2005 (show op 0 2003 = some (.iload 5, 2) by decide +kernel) rfl rfl ?_
    by_cases hc26 : v8 = 0
    · rw [if_pos hc26] at h
      refine g_ifF 2008 2020 (show op 0 2005 = some (.ifCond .ne 15, 3) by decide +kernel) rfl rfl (decide_eq_false (fun h9 => h9 hc26)) ?_
      refine g_aload_n 2009 (show op 0 2008 = some (.aload_n 3, 1) by decide +kernel) rfl rfl ?_
      refine g_iconst 2010 (show op 0 2009 = some (.iconst 0, 1) by decide +kernel) rfl rfl ?_
      refine g_laload 2011 1 (show op 0 2010 = some (.laload, 1) by decide +kernel) rfl (by decide +kernel) (by decide) ?_
      refine g_iload 2013 (show op 0 2011 = some (.iload 6, 2) by decide +kernel) rfl rfl ?_
      refine g_i2l 2014 (show op 0 2013 = some (.i2l, 1) by decide +kernel) rfl ?_
      refine g_lcmp 2015 (show op 0 2014 = some (.lcmp, 1) by decide +kernel) rfl ?_
      by_cases hc27 : (if v18 < (s21 726 (0 : Int).toNat) then 1 else if (s21 726 (0 : Int).toNat) = v18 then 0 else -1) = 0
      · rw [if_pos hc27] at h
        refine g_ifT 2020 (show op 0 2015 = some (.ifCond .eq 5, 3) by decide +kernel) rfl (decide_eq_true hc27) ?_
        exact h
      · rw [if_neg hc27] at h
        refine g_ifF 2018 2020 (show op 0 2015 = some (.ifCond .eq 5, 3) by decide +kernel) rfl rfl (decide_eq_false hc27) ?_
        refine g_iconst 2019 (show op 0 2018 = some (.iconst 0, 1) by decide +kernel) rfl rfl ?_
        exact (g_zret (show op 0 2019 = some (.ireturn, 1) by decide +kernel) (by decide +kernel) (by decide) h)
    · rw [if_neg hc26] at h
      refine g_ifT 2020 (show op 0 2005 = some (.ifCond .ne 15, 3) by decide +kernel) rfl (decide_eq_true hc26) ?_
      exact h
  · rw [if_neg hc25] at h
    refine g_icmpF 2001 2003 (show op 0 1998 = some (.if_icmp .eq 5, 3) by decide +kernel) rfl rfl (decide_eq_false hc25) ?_
    refine g_iconst 2002 (show op 0 2001 = some (.iconst 0, 1) by decide +kernel) rfl rfl ?_
    exact (g_zret (show op 0 2002 = some (.ireturn, 1) by decide +kernel) (by decide +kernel) (by decide) h)
theorem b0_2023 {x4 : Int} {d5 : Option AV} {d6 : Option AV} {k : Nat} {n : Nat} {σ : Sg} {o : Rs} (h : (-2147483648 ≤ (x4 + 1) ∧ (x4 + 1) ≤ 2147483647) ∧ (0 ≤ (x4 + 1) ∧ (x4 + 1) < σ (SCR + 1) 0) ∧ ((k + 1) ≤ 601024 ∧ (n + 6) ≤ 7293034) ∧ (∃ (v4 : Int) (s3 : Sg), Dd 413 [(.inr (.inr (some 0))), (.inl (σ SCR ((x4 + 1)).toNat)), (.inr (.inr (some 726)))] σ (.inl (some (.inl v4)), s3) ∧ (-2147483648 ≤ (x4 + 1) ∧ (x4 + 1) ≤ 2147483647) ∧ (0 ≤ (x4 + 1) ∧ (x4 + 1) < s3 (SCR + 1) 0) ∧ ((k + 1) ≤ 601024 ∧ (n + 6) ≤ 7293034) ∧ (∃ (v10 : Int) (s9 : Sg), Dd 327 [(.inr (.inr (some 682))), (.inl (s3 SCR ((x4 + 1)).toNat))] s3 (.inl (some (.inl v10)), s9) ∧ ((k + 1) ≤ 601024 ∧ (n + 6) ≤ 7293034) ∧ (∃ (v14 : Int) (s13 : Sg), Dd 244 [(.inr (.inr (some 682)))] s9 (.inl (some (.inl v14)), s13) ∧ (if v14 = v4 then (if v4 = 0 then (if (if v10 < (s13 726 (0 : Int).toNat) then 1 else if (s13 726 (0 : Int).toNat) = v10 then 0 else -1) = 0 then C0_2076 x4 (some (.inl v4)) (some (.inl v10)) (k + 1) (n + 6) s13 o else o = (.inl (some (.inl 0)), s13)) else C0_2076 x4 (some (.inl v4)) (some (.inl v10)) (k + 1) (n + 6) s13 o) else o = (.inl (some (.inl 0)), s13)))))) : C0_2023 x4 d5 d6 k n σ o := by
  show Gd 0 2023 [(some (.inr (.inr (some SCR)))), (some (.inr (.inr (some 0)))), (some (.inr (.inr (some 682)))), (some (.inr (.inr (some 726)))), (some (.inl x4)), d5, d6] [] σ k n o
  refine g_aload_n 2024 (show op 0 2023 = some (.aload_n 1, 1) by decide +kernel) rfl rfl ?_
  refine g_aload_n 2025 (show op 0 2024 = some (.aload_n 0, 1) by decide +kernel) rfl rfl ?_
  refine g_iload 2027 (show op 0 2025 = some (.iload 4, 2) by decide +kernel) rfl rfl ?_
  refine g_iconst 2028 (show op 0 2027 = some (.iconst 1, 1) by decide +kernel) rfl rfl ?_
  obtain ⟨g1, h⟩ := h
  refine g_iadd 2029 (show op 0 2028 = some (.iadd, 1) by decide +kernel) rfl g1 ?_
  obtain ⟨g2, h⟩ := h
  refine g_scr 2030 (show op 0 2029 = some (.iaload, 1) by decide +kernel) rfl g2 ?_
  refine g_aload_n 2031 (show op 0 2030 = some (.aload_n 3, 1) by decide +kernel) rfl rfl ?_
  obtain ⟨g6, h⟩ := h
  obtain ⟨v4, s3, hD5, h⟩ := h
  refine g_call 2034 [(.inl v4)] (show op 0 2031 = some (.invokestatic 273, 3) by decide +kernel) (call_stL (c := 1) (s := 6) (nj := 3) (j := 413) (t := []) (as := [(.inr (.inr (some 0))), (.inl (σ SCR ((x4 + 1)).toNat)), (.inr (.inr (some 726)))]) (by decide +kernel) rfl (by decide +kernel) g6 rfl rfl rfl rfl rfl) hD5 rfl ?_
  refine g_istore 2036 [(some (.inr (.inr (some SCR)))), (some (.inr (.inr (some 0)))), (some (.inr (.inr (some 682)))), (some (.inr (.inr (some 726)))), (some (.inl x4)), (some (.inl v4)), d6] (show op 0 2034 = some (.istore 5, 2) by decide +kernel) rfl rfl rfl ?_
  refine g_aload_n 2037 (show op 0 2036 = some (.aload_n 2, 1) by decide +kernel) rfl rfl ?_
  refine g_aload_n 2038 (show op 0 2037 = some (.aload_n 0, 1) by decide +kernel) rfl rfl ?_
  refine g_iload 2040 (show op 0 2038 = some (.iload 4, 2) by decide +kernel) rfl rfl ?_
  refine g_iconst 2041 (show op 0 2040 = some (.iconst 1, 1) by decide +kernel) rfl rfl ?_
  obtain ⟨g7, h⟩ := h
  refine g_iadd 2042 (show op 0 2041 = some (.iadd, 1) by decide +kernel) rfl g7 ?_
  obtain ⟨g8, h⟩ := h
  refine g_scr 2043 (show op 0 2042 = some (.iaload, 1) by decide +kernel) rfl g8 ?_
  obtain ⟨g12, h⟩ := h
  obtain ⟨v10, s9, hD11, h⟩ := h
  refine g_call 2046 [(.inl v10)] (show op 0 2043 = some (.invokevirtual 275, 3) by decide +kernel) (call_viL (c := 0) (s := 0) (nj := 2) (j := 327) (k9 := 21) (t := []) (as := [(.inr (.inr (some 682))), (.inl (s3 SCR ((x4 + 1)).toNat))]) (by decide +kernel) rfl (by decide +kernel) g12 rfl rfl rfl rfl rfl rfl (by decide +kernel) (by decide +kernel)) hD11 rfl ?_
  refine g_istore 2048 [(some (.inr (.inr (some SCR)))), (some (.inr (.inr (some 0)))), (some (.inr (.inr (some 682)))), (some (.inr (.inr (some 726)))), (some (.inl x4)), (some (.inl v4)), (some (.inl v10))] (show op 0 2046 = some (.istore 6, 2) by decide +kernel) rfl rfl rfl ?_
  refine g_aload_n 2049 (show op 0 2048 = some (.aload_n 2, 1) by decide +kernel) rfl rfl ?_
  obtain ⟨g16, h⟩ := h
  obtain ⟨v14, s13, hD15, h⟩ := h
  refine g_call 2052 [(.inl v14)] (show op 0 2049 = some (.invokevirtual 194, 3) by decide +kernel) (call_viL (c := 0) (s := 0) (nj := 1) (j := 244) (k9 := 21) (t := []) (as := [(.inr (.inr (some 682)))]) (by decide +kernel) rfl (by decide +kernel) g16 rfl rfl rfl rfl rfl rfl (by decide +kernel) (by decide +kernel)) hD15 rfl ?_
  refine g_iload 2054 (show op 0 2052 = some (.iload 5, 2) by decide +kernel) rfl rfl ?_
  by_cases hc17 : v14 = v4
  · rw [if_pos hc17] at h
    refine g_icmpT 2059 (show op 0 2054 = some (.if_icmp .eq 5, 3) by decide +kernel) rfl (decide_eq_true hc17) ?_
    refine g_iload 2061 (show op 0 2059 = some (.iload 5, 2) by decide +kernel) rfl rfl ?_
    by_cases hc18 : v4 = 0
    · rw [if_pos hc18] at h
      refine g_ifF 2064 2076 (show op 0 2061 = some (.ifCond .ne 15, 3) by decide +kernel) rfl rfl (decide_eq_false (fun h9 => h9 hc18)) ?_
      refine g_aload_n 2065 (show op 0 2064 = some (.aload_n 3, 1) by decide +kernel) rfl rfl ?_
      refine g_iconst 2066 (show op 0 2065 = some (.iconst 0, 1) by decide +kernel) rfl rfl ?_
      refine g_laload 2067 1 (show op 0 2066 = some (.laload, 1) by decide +kernel) rfl (by decide +kernel) (by decide) ?_
      refine g_iload 2069 (show op 0 2067 = some (.iload 6, 2) by decide +kernel) rfl rfl ?_
      refine g_i2l 2070 (show op 0 2069 = some (.i2l, 1) by decide +kernel) rfl ?_
      refine g_lcmp 2071 (show op 0 2070 = some (.lcmp, 1) by decide +kernel) rfl ?_
      by_cases hc19 : (if v10 < (s13 726 (0 : Int).toNat) then 1 else if (s13 726 (0 : Int).toNat) = v10 then 0 else -1) = 0
      · rw [if_pos hc19] at h
        refine g_ifT 2076 (show op 0 2071 = some (.ifCond .eq 5, 3) by decide +kernel) rfl (decide_eq_true hc19) ?_
        exact h
      · rw [if_neg hc19] at h
        refine g_ifF 2074 2076 (show op 0 2071 = some (.ifCond .eq 5, 3) by decide +kernel) rfl rfl (decide_eq_false hc19) ?_
        refine g_iconst 2075 (show op 0 2074 = some (.iconst 0, 1) by decide +kernel) rfl rfl ?_
        exact (g_zret (show op 0 2075 = some (.ireturn, 1) by decide +kernel) (by decide +kernel) (by decide) h)
    · rw [if_neg hc18] at h
      refine g_ifT 2076 (show op 0 2061 = some (.ifCond .ne 15, 3) by decide +kernel) rfl (decide_eq_true hc18) ?_
      exact h
  · rw [if_neg hc17] at h
    refine g_icmpF 2057 2059 (show op 0 2054 = some (.if_icmp .eq 5, 3) by decide +kernel) rfl rfl (decide_eq_false hc17) ?_
    refine g_iconst 2058 (show op 0 2057 = some (.iconst 0, 1) by decide +kernel) rfl rfl ?_
    exact (g_zret (show op 0 2058 = some (.ireturn, 1) by decide +kernel) (by decide +kernel) (by decide) h)
theorem b0_2079 {x4 : Int} {d5 : Option AV} {d6 : Option AV} {k : Nat} {n : Nat} {σ : Sg} {o : Rs} (h : (-2147483648 ≤ (x4 + 1) ∧ (x4 + 1) ≤ 2147483647) ∧ (0 ≤ (x4 + 1) ∧ (x4 + 1) < σ (SCR + 1) 0) ∧ (-2147483648 ≤ (x4 + 2) ∧ (x4 + 2) ≤ 2147483647) ∧ (0 ≤ (x4 + 2) ∧ (x4 + 2) < σ (SCR + 1) 0) ∧ (-2147483648 ≤ (x4 + 3) ∧ (x4 + 3) ≤ 2147483647) ∧ (0 ≤ (x4 + 3) ∧ (x4 + 3) < σ (SCR + 1) 0) ∧ ((k + 5) ≤ 601024 ∧ (n + 30) ≤ 7293034) ∧ (∃ (v8 : Int) (s7 : Sg), Dd 414 [(.inr (.inr (some 0))), (.inl (σ SCR ((x4 + 1)).toNat)), (.inl (σ SCR ((x4 + 2)).toNat)), (.inl (σ SCR ((x4 + 3)).toNat)), (.inr (.inr (some 726)))] σ (.inl (some (.inl v8)), s7) ∧ (-2147483648 ≤ (x4 + 1) ∧ (x4 + 1) ≤ 2147483647) ∧ (0 ≤ (x4 + 1) ∧ (x4 + 1) < s7 (SCR + 1) 0) ∧ (-2147483648 ≤ (x4 + 2) ∧ (x4 + 2) ≤ 2147483647) ∧ (0 ≤ (x4 + 2) ∧ (x4 + 2) < s7 (SCR + 1) 0) ∧ (-2147483648 ≤ (x4 + 3) ∧ (x4 + 3) ≤ 2147483647) ∧ (0 ≤ (x4 + 3) ∧ (x4 + 3) < s7 (SCR + 1) 0) ∧ ((k + 5) ≤ 601024 ∧ (n + 30) ≤ 7293034) ∧ (∃ (v18 : Int) (s17 : Sg), Dd 333 [(.inr (.inr (some 682))), (.inl (s7 SCR ((x4 + 1)).toNat)), (.inl (s7 SCR ((x4 + 2)).toNat)), (.inl (s7 SCR ((x4 + 3)).toNat))] s7 (.inl (some (.inl v18)), s17) ∧ ((k + 5) ≤ 601024 ∧ (n + 30) ≤ 7293034) ∧ (∃ (v22 : Int) (s21 : Sg), Dd 244 [(.inr (.inr (some 682)))] s17 (.inl (some (.inl v22)), s21) ∧ (if v22 = v8 then (if v8 = 0 then (if (if v18 < (s21 726 (0 : Int).toNat) then 1 else if (s21 726 (0 : Int).toNat) = v18 then 0 else -1) = 0 then C0_2156 x4 (some (.inl v8)) (some (.inl v18)) (k + 5) (n + 30) s21 o else o = (.inl (some (.inl 0)), s21)) else C0_2156 x4 (some (.inl v8)) (some (.inl v18)) (k + 5) (n + 30) s21 o) else o = (.inl (some (.inl 0)), s21)))))) : C0_2079 x4 d5 d6 k n σ o := by
  show Gd 0 2079 [(some (.inr (.inr (some SCR)))), (some (.inr (.inr (some 0)))), (some (.inr (.inr (some 682)))), (some (.inr (.inr (some 726)))), (some (.inl x4)), d5, d6] [] σ k n o
  refine g_aload_n 2080 (show op 0 2079 = some (.aload_n 1, 1) by decide +kernel) rfl rfl ?_
  refine g_aload_n 2081 (show op 0 2080 = some (.aload_n 0, 1) by decide +kernel) rfl rfl ?_
  refine g_iload 2083 (show op 0 2081 = some (.iload 4, 2) by decide +kernel) rfl rfl ?_
  refine g_iconst 2084 (show op 0 2083 = some (.iconst 1, 1) by decide +kernel) rfl rfl ?_
  obtain ⟨g1, h⟩ := h
  refine g_iadd 2085 (show op 0 2084 = some (.iadd, 1) by decide +kernel) rfl g1 ?_
  obtain ⟨g2, h⟩ := h
  refine g_scr 2086 (show op 0 2085 = some (.iaload, 1) by decide +kernel) rfl g2 ?_
  refine g_aload_n 2087 (show op 0 2086 = some (.aload_n 0, 1) by decide +kernel) rfl rfl ?_
  refine g_iload 2089 (show op 0 2087 = some (.iload 4, 2) by decide +kernel) rfl rfl ?_
  refine g_iconst 2090 (show op 0 2089 = some (.iconst 2, 1) by decide +kernel) rfl rfl ?_
  obtain ⟨g3, h⟩ := h
  refine g_iadd 2091 (show op 0 2090 = some (.iadd, 1) by decide +kernel) rfl g3 ?_
  obtain ⟨g4, h⟩ := h
  refine g_scr 2092 (show op 0 2091 = some (.iaload, 1) by decide +kernel) rfl g4 ?_
  refine g_aload_n 2093 (show op 0 2092 = some (.aload_n 0, 1) by decide +kernel) rfl rfl ?_
  refine g_iload 2095 (show op 0 2093 = some (.iload 4, 2) by decide +kernel) rfl rfl ?_
  refine g_iconst 2096 (show op 0 2095 = some (.iconst 3, 1) by decide +kernel) rfl rfl ?_
  obtain ⟨g5, h⟩ := h
  refine g_iadd 2097 (show op 0 2096 = some (.iadd, 1) by decide +kernel) rfl g5 ?_
  obtain ⟨g6, h⟩ := h
  refine g_scr 2098 (show op 0 2097 = some (.iaload, 1) by decide +kernel) rfl g6 ?_
  refine g_aload_n 2099 (show op 0 2098 = some (.aload_n 3, 1) by decide +kernel) rfl rfl ?_
  obtain ⟨g10, h⟩ := h
  obtain ⟨v8, s7, hD9, h⟩ := h
  refine g_call 2102 [(.inl v8)] (show op 0 2099 = some (.invokestatic 276, 3) by decide +kernel) (call_stL (c := 5) (s := 30) (nj := 5) (j := 414) (t := []) (as := [(.inr (.inr (some 0))), (.inl (σ SCR ((x4 + 1)).toNat)), (.inl (σ SCR ((x4 + 2)).toNat)), (.inl (σ SCR ((x4 + 3)).toNat)), (.inr (.inr (some 726)))]) (by decide +kernel) rfl (by decide +kernel) g10 rfl rfl rfl rfl rfl) hD9 rfl ?_
  refine g_istore 2104 [(some (.inr (.inr (some SCR)))), (some (.inr (.inr (some 0)))), (some (.inr (.inr (some 682)))), (some (.inr (.inr (some 726)))), (some (.inl x4)), (some (.inl v8)), d6] (show op 0 2102 = some (.istore 5, 2) by decide +kernel) rfl rfl rfl ?_
  refine g_aload_n 2105 (show op 0 2104 = some (.aload_n 2, 1) by decide +kernel) rfl rfl ?_
  refine g_aload_n 2106 (show op 0 2105 = some (.aload_n 0, 1) by decide +kernel) rfl rfl ?_
  refine g_iload 2108 (show op 0 2106 = some (.iload 4, 2) by decide +kernel) rfl rfl ?_
  refine g_iconst 2109 (show op 0 2108 = some (.iconst 1, 1) by decide +kernel) rfl rfl ?_
  obtain ⟨g11, h⟩ := h
  refine g_iadd 2110 (show op 0 2109 = some (.iadd, 1) by decide +kernel) rfl g11 ?_
  obtain ⟨g12, h⟩ := h
  refine g_scr 2111 (show op 0 2110 = some (.iaload, 1) by decide +kernel) rfl g12 ?_
  refine g_aload_n 2112 (show op 0 2111 = some (.aload_n 0, 1) by decide +kernel) rfl rfl ?_
  refine g_iload 2114 (show op 0 2112 = some (.iload 4, 2) by decide +kernel) rfl rfl ?_
  refine g_iconst 2115 (show op 0 2114 = some (.iconst 2, 1) by decide +kernel) rfl rfl ?_
  obtain ⟨g13, h⟩ := h
  refine g_iadd 2116 (show op 0 2115 = some (.iadd, 1) by decide +kernel) rfl g13 ?_
  obtain ⟨g14, h⟩ := h
  refine g_scr 2117 (show op 0 2116 = some (.iaload, 1) by decide +kernel) rfl g14 ?_
  refine g_aload_n 2118 (show op 0 2117 = some (.aload_n 0, 1) by decide +kernel) rfl rfl ?_
  refine g_iload 2120 (show op 0 2118 = some (.iload 4, 2) by decide +kernel) rfl rfl ?_
  refine g_iconst 2121 (show op 0 2120 = some (.iconst 3, 1) by decide +kernel) rfl rfl ?_
  obtain ⟨g15, h⟩ := h
  refine g_iadd 2122 (show op 0 2121 = some (.iadd, 1) by decide +kernel) rfl g15 ?_
  obtain ⟨g16, h⟩ := h
  refine g_scr 2123 (show op 0 2122 = some (.iaload, 1) by decide +kernel) rfl g16 ?_
  obtain ⟨g20, h⟩ := h
  obtain ⟨v18, s17, hD19, h⟩ := h
  refine g_call 2126 [(.inl v18)] (show op 0 2123 = some (.invokevirtual 278, 3) by decide +kernel) (call_viL (c := 0) (s := 0) (nj := 4) (j := 333) (k9 := 21) (t := []) (as := [(.inr (.inr (some 682))), (.inl (s7 SCR ((x4 + 1)).toNat)), (.inl (s7 SCR ((x4 + 2)).toNat)), (.inl (s7 SCR ((x4 + 3)).toNat))]) (by decide +kernel) rfl (by decide +kernel) g20 rfl rfl rfl rfl rfl rfl (by decide +kernel) (by decide +kernel)) hD19 rfl ?_
  refine g_istore 2128 [(some (.inr (.inr (some SCR)))), (some (.inr (.inr (some 0)))), (some (.inr (.inr (some 682)))), (some (.inr (.inr (some 726)))), (some (.inl x4)), (some (.inl v8)), (some (.inl v18))] (show op 0 2126 = some (.istore 6, 2) by decide +kernel) rfl rfl rfl ?_
  refine g_aload_n 2129 (show op 0 2128 = some (.aload_n 2, 1) by decide +kernel) rfl rfl ?_
  obtain ⟨g24, h⟩ := h
  obtain ⟨v22, s21, hD23, h⟩ := h
  refine g_call 2132 [(.inl v22)] (show op 0 2129 = some (.invokevirtual 194, 3) by decide +kernel) (call_viL (c := 0) (s := 0) (nj := 1) (j := 244) (k9 := 21) (t := []) (as := [(.inr (.inr (some 682)))]) (by decide +kernel) rfl (by decide +kernel) g24 rfl rfl rfl rfl rfl rfl (by decide +kernel) (by decide +kernel)) hD23 rfl ?_
  refine g_iload 2134 (show op 0 2132 = some (.iload 5, 2) by decide +kernel) rfl rfl ?_
  by_cases hc25 : v22 = v8
  · rw [if_pos hc25] at h
    refine g_icmpT 2139 (show op 0 2134 = some (.if_icmp .eq 5, 3) by decide +kernel) rfl (decide_eq_true hc25) ?_
    refine g_iload 2141 (show op 0 2139 = some (.iload 5, 2) by decide +kernel) rfl rfl ?_
    by_cases hc26 : v8 = 0
    · rw [if_pos hc26] at h
      refine g_ifF 2144 2156 (show op 0 2141 = some (.ifCond .ne 15, 3) by decide +kernel) rfl rfl (decide_eq_false (fun h9 => h9 hc26)) ?_
      refine g_aload_n 2145 (show op 0 2144 = some (.aload_n 3, 1) by decide +kernel) rfl rfl ?_
      refine g_iconst 2146 (show op 0 2145 = some (.iconst 0, 1) by decide +kernel) rfl rfl ?_
      refine g_laload 2147 1 (show op 0 2146 = some (.laload, 1) by decide +kernel) rfl (by decide +kernel) (by decide) ?_
      refine g_iload 2149 (show op 0 2147 = some (.iload 6, 2) by decide +kernel) rfl rfl ?_
      refine g_i2l 2150 (show op 0 2149 = some (.i2l, 1) by decide +kernel) rfl ?_
      refine g_lcmp 2151 (show op 0 2150 = some (.lcmp, 1) by decide +kernel) rfl ?_
      by_cases hc27 : (if v18 < (s21 726 (0 : Int).toNat) then 1 else if (s21 726 (0 : Int).toNat) = v18 then 0 else -1) = 0
      · rw [if_pos hc27] at h
        refine g_ifT 2156 (show op 0 2151 = some (.ifCond .eq 5, 3) by decide +kernel) rfl (decide_eq_true hc27) ?_
        exact h
      · rw [if_neg hc27] at h
        refine g_ifF 2154 2156 (show op 0 2151 = some (.ifCond .eq 5, 3) by decide +kernel) rfl rfl (decide_eq_false hc27) ?_
        refine g_iconst 2155 (show op 0 2154 = some (.iconst 0, 1) by decide +kernel) rfl rfl ?_
        exact (g_zret (show op 0 2155 = some (.ireturn, 1) by decide +kernel) (by decide +kernel) (by decide) h)
    · rw [if_neg hc26] at h
      refine g_ifT 2156 (show op 0 2141 = some (.ifCond .ne 15, 3) by decide +kernel) rfl (decide_eq_true hc26) ?_
      exact h
  · rw [if_neg hc25] at h
    refine g_icmpF 2137 2139 (show op 0 2134 = some (.if_icmp .eq 5, 3) by decide +kernel) rfl rfl (decide_eq_false hc25) ?_
    refine g_iconst 2138 (show op 0 2137 = some (.iconst 0, 1) by decide +kernel) rfl rfl ?_
    exact (g_zret (show op 0 2138 = some (.ireturn, 1) by decide +kernel) (by decide +kernel) (by decide) h)
theorem b0_2159 {x4 : Int} {d5 : Option AV} {d6 : Option AV} {k : Nat} {n : Nat} {σ : Sg} {o : Rs} (h : (-2147483648 ≤ (x4 + 1) ∧ (x4 + 1) ≤ 2147483647) ∧ (0 ≤ (x4 + 1) ∧ (x4 + 1) < σ (SCR + 1) 0) ∧ ((k + 1) ≤ 601024 ∧ (n + 6) ≤ 7293034) ∧ (∃ (v4 : Int) (s3 : Sg), Dd 415 [(.inr (.inr (some 0))), (.inl (σ SCR ((x4 + 1)).toNat)), (.inr (.inr (some 726)))] σ (.inl (some (.inl v4)), s3) ∧ (-2147483648 ≤ (x4 + 1) ∧ (x4 + 1) ≤ 2147483647) ∧ (0 ≤ (x4 + 1) ∧ (x4 + 1) < s3 (SCR + 1) 0) ∧ ((k + 1) ≤ 601024 ∧ (n + 6) ≤ 7293034) ∧ (∃ (v10 : Int) (s9 : Sg), Dd 338 [(.inr (.inr (some 682))), (.inl (s3 SCR ((x4 + 1)).toNat))] s3 (.inl (some (.inl v10)), s9) ∧ ((k + 1) ≤ 601024 ∧ (n + 6) ≤ 7293034) ∧ (∃ (v14 : Int) (s13 : Sg), Dd 244 [(.inr (.inr (some 682)))] s9 (.inl (some (.inl v14)), s13) ∧ (if v14 = v4 then (if v4 = 0 then (if (if v10 < (s13 726 (0 : Int).toNat) then 1 else if (s13 726 (0 : Int).toNat) = v10 then 0 else -1) = 0 then C0_2212 x4 (some (.inl v4)) (some (.inl v10)) (k + 1) (n + 6) s13 o else o = (.inl (some (.inl 0)), s13)) else C0_2212 x4 (some (.inl v4)) (some (.inl v10)) (k + 1) (n + 6) s13 o) else o = (.inl (some (.inl 0)), s13)))))) : C0_2159 x4 d5 d6 k n σ o := by
  show Gd 0 2159 [(some (.inr (.inr (some SCR)))), (some (.inr (.inr (some 0)))), (some (.inr (.inr (some 682)))), (some (.inr (.inr (some 726)))), (some (.inl x4)), d5, d6] [] σ k n o
  refine g_aload_n 2160 (show op 0 2159 = some (.aload_n 1, 1) by decide +kernel) rfl rfl ?_
  refine g_aload_n 2161 (show op 0 2160 = some (.aload_n 0, 1) by decide +kernel) rfl rfl ?_
  refine g_iload 2163 (show op 0 2161 = some (.iload 4, 2) by decide +kernel) rfl rfl ?_
  refine g_iconst 2164 (show op 0 2163 = some (.iconst 1, 1) by decide +kernel) rfl rfl ?_
  obtain ⟨g1, h⟩ := h
  refine g_iadd 2165 (show op 0 2164 = some (.iadd, 1) by decide +kernel) rfl g1 ?_
  obtain ⟨g2, h⟩ := h
  refine g_scr 2166 (show op 0 2165 = some (.iaload, 1) by decide +kernel) rfl g2 ?_
  refine g_aload_n 2167 (show op 0 2166 = some (.aload_n 3, 1) by decide +kernel) rfl rfl ?_
  obtain ⟨g6, h⟩ := h
  obtain ⟨v4, s3, hD5, h⟩ := h
  refine g_call 2170 [(.inl v4)] (show op 0 2167 = some (.invokestatic 279, 3) by decide +kernel) (call_stL (c := 1) (s := 6) (nj := 3) (j := 415) (t := []) (as := [(.inr (.inr (some 0))), (.inl (σ SCR ((x4 + 1)).toNat)), (.inr (.inr (some 726)))]) (by decide +kernel) rfl (by decide +kernel) g6 rfl rfl rfl rfl rfl) hD5 rfl ?_
  refine g_istore 2172 [(some (.inr (.inr (some SCR)))), (some (.inr (.inr (some 0)))), (some (.inr (.inr (some 682)))), (some (.inr (.inr (some 726)))), (some (.inl x4)), (some (.inl v4)), d6] (show op 0 2170 = some (.istore 5, 2) by decide +kernel) rfl rfl rfl ?_
  refine g_aload_n 2173 (show op 0 2172 = some (.aload_n 2, 1) by decide +kernel) rfl rfl ?_
  refine g_aload_n 2174 (show op 0 2173 = some (.aload_n 0, 1) by decide +kernel) rfl rfl ?_
  refine g_iload 2176 (show op 0 2174 = some (.iload 4, 2) by decide +kernel) rfl rfl ?_
  refine g_iconst 2177 (show op 0 2176 = some (.iconst 1, 1) by decide +kernel) rfl rfl ?_
  obtain ⟨g7, h⟩ := h
  refine g_iadd 2178 (show op 0 2177 = some (.iadd, 1) by decide +kernel) rfl g7 ?_
  obtain ⟨g8, h⟩ := h
  refine g_scr 2179 (show op 0 2178 = some (.iaload, 1) by decide +kernel) rfl g8 ?_
  obtain ⟨g12, h⟩ := h
  obtain ⟨v10, s9, hD11, h⟩ := h
  refine g_call 2182 [(.inl v10)] (show op 0 2179 = some (.invokevirtual 281, 3) by decide +kernel) (call_viL (c := 0) (s := 0) (nj := 2) (j := 338) (k9 := 21) (t := []) (as := [(.inr (.inr (some 682))), (.inl (s3 SCR ((x4 + 1)).toNat))]) (by decide +kernel) rfl (by decide +kernel) g12 rfl rfl rfl rfl rfl rfl (by decide +kernel) (by decide +kernel)) hD11 rfl ?_
  refine g_istore 2184 [(some (.inr (.inr (some SCR)))), (some (.inr (.inr (some 0)))), (some (.inr (.inr (some 682)))), (some (.inr (.inr (some 726)))), (some (.inl x4)), (some (.inl v4)), (some (.inl v10))] (show op 0 2182 = some (.istore 6, 2) by decide +kernel) rfl rfl rfl ?_
  refine g_aload_n 2185 (show op 0 2184 = some (.aload_n 2, 1) by decide +kernel) rfl rfl ?_
  obtain ⟨g16, h⟩ := h
  obtain ⟨v14, s13, hD15, h⟩ := h
  refine g_call 2188 [(.inl v14)] (show op 0 2185 = some (.invokevirtual 194, 3) by decide +kernel) (call_viL (c := 0) (s := 0) (nj := 1) (j := 244) (k9 := 21) (t := []) (as := [(.inr (.inr (some 682)))]) (by decide +kernel) rfl (by decide +kernel) g16 rfl rfl rfl rfl rfl rfl (by decide +kernel) (by decide +kernel)) hD15 rfl ?_
  refine g_iload 2190 (show op 0 2188 = some (.iload 5, 2) by decide +kernel) rfl rfl ?_
  by_cases hc17 : v14 = v4
  · rw [if_pos hc17] at h
    refine g_icmpT 2195 (show op 0 2190 = some (.if_icmp .eq 5, 3) by decide +kernel) rfl (decide_eq_true hc17) ?_
    refine g_iload 2197 (show op 0 2195 = some (.iload 5, 2) by decide +kernel) rfl rfl ?_
    by_cases hc18 : v4 = 0
    · rw [if_pos hc18] at h
      refine g_ifF 2200 2212 (show op 0 2197 = some (.ifCond .ne 15, 3) by decide +kernel) rfl rfl (decide_eq_false (fun h9 => h9 hc18)) ?_
      refine g_aload_n 2201 (show op 0 2200 = some (.aload_n 3, 1) by decide +kernel) rfl rfl ?_
      refine g_iconst 2202 (show op 0 2201 = some (.iconst 0, 1) by decide +kernel) rfl rfl ?_
      refine g_laload 2203 1 (show op 0 2202 = some (.laload, 1) by decide +kernel) rfl (by decide +kernel) (by decide) ?_
      refine g_iload 2205 (show op 0 2203 = some (.iload 6, 2) by decide +kernel) rfl rfl ?_
      refine g_i2l 2206 (show op 0 2205 = some (.i2l, 1) by decide +kernel) rfl ?_
      refine g_lcmp 2207 (show op 0 2206 = some (.lcmp, 1) by decide +kernel) rfl ?_
      by_cases hc19 : (if v10 < (s13 726 (0 : Int).toNat) then 1 else if (s13 726 (0 : Int).toNat) = v10 then 0 else -1) = 0
      · rw [if_pos hc19] at h
        refine g_ifT 2212 (show op 0 2207 = some (.ifCond .eq 5, 3) by decide +kernel) rfl (decide_eq_true hc19) ?_
        exact h
      · rw [if_neg hc19] at h
        refine g_ifF 2210 2212 (show op 0 2207 = some (.ifCond .eq 5, 3) by decide +kernel) rfl rfl (decide_eq_false hc19) ?_
        refine g_iconst 2211 (show op 0 2210 = some (.iconst 0, 1) by decide +kernel) rfl rfl ?_
        exact (g_zret (show op 0 2211 = some (.ireturn, 1) by decide +kernel) (by decide +kernel) (by decide) h)
    · rw [if_neg hc18] at h
      refine g_ifT 2212 (show op 0 2197 = some (.ifCond .ne 15, 3) by decide +kernel) rfl (decide_eq_true hc18) ?_
      exact h
  · rw [if_neg hc17] at h
    refine g_icmpF 2193 2195 (show op 0 2190 = some (.if_icmp .eq 5, 3) by decide +kernel) rfl rfl (decide_eq_false hc17) ?_
    refine g_iconst 2194 (show op 0 2193 = some (.iconst 0, 1) by decide +kernel) rfl rfl ?_
    exact (g_zret (show op 0 2194 = some (.ireturn, 1) by decide +kernel) (by decide +kernel) (by decide) h)
theorem b0_2215 {x4 : Int} {d5 : Option AV} {d6 : Option AV} {k : Nat} {n : Nat} {σ : Sg} {o : Rs} (h : (-2147483648 ≤ (x4 + 1) ∧ (x4 + 1) ≤ 2147483647) ∧ (0 ≤ (x4 + 1) ∧ (x4 + 1) < σ (SCR + 1) 0) ∧ (-2147483648 ≤ (x4 + 2) ∧ (x4 + 2) ≤ 2147483647) ∧ (0 ≤ (x4 + 2) ∧ (x4 + 2) < σ (SCR + 1) 0) ∧ (-2147483648 ≤ (x4 + 3) ∧ (x4 + 3) ≤ 2147483647) ∧ (0 ≤ (x4 + 3) ∧ (x4 + 3) < σ (SCR + 1) 0) ∧ ((k + 3) ≤ 601024 ∧ (n + 18) ≤ 7293034) ∧ (∃ (v8 : Int) (s7 : Sg), Dd 416 [(.inr (.inr (some 0))), (.inl (σ SCR ((x4 + 1)).toNat)), (.inl (σ SCR ((x4 + 2)).toNat)), (.inl (σ SCR ((x4 + 3)).toNat)), (.inr (.inr (some 726)))] σ (.inl (some (.inl v8)), s7) ∧ (-2147483648 ≤ (x4 + 1) ∧ (x4 + 1) ≤ 2147483647) ∧ (0 ≤ (x4 + 1) ∧ (x4 + 1) < s7 (SCR + 1) 0) ∧ (-2147483648 ≤ (x4 + 2) ∧ (x4 + 2) ≤ 2147483647) ∧ (0 ≤ (x4 + 2) ∧ (x4 + 2) < s7 (SCR + 1) 0) ∧ (-2147483648 ≤ (x4 + 3) ∧ (x4 + 3) ≤ 2147483647) ∧ (0 ≤ (x4 + 3) ∧ (x4 + 3) < s7 (SCR + 1) 0) ∧ ((k + 3) ≤ 601024 ∧ (n + 18) ≤ 7293034) ∧ (∃ (v18 : Int) (s17 : Sg), Dd 339 [(.inr (.inr (some 682))), (.inl (s7 SCR ((x4 + 1)).toNat)), (.inl (s7 SCR ((x4 + 2)).toNat)), (.inl (s7 SCR ((x4 + 3)).toNat))] s7 (.inl (some (.inl v18)), s17) ∧ ((k + 3) ≤ 601024 ∧ (n + 18) ≤ 7293034) ∧ (∃ (v22 : Int) (s21 : Sg), Dd 244 [(.inr (.inr (some 682)))] s17 (.inl (some (.inl v22)), s21) ∧ (if v22 = v8 then (if v8 = 0 then (if (if v18 < (s21 726 (0 : Int).toNat) then 1 else if (s21 726 (0 : Int).toNat) = v18 then 0 else -1) = 0 then C0_2292 x4 (some (.inl v8)) (some (.inl v18)) (k + 3) (n + 18) s21 o else o = (.inl (some (.inl 0)), s21)) else C0_2292 x4 (some (.inl v8)) (some (.inl v18)) (k + 3) (n + 18) s21 o) else o = (.inl (some (.inl 0)), s21)))))) : C0_2215 x4 d5 d6 k n σ o := by
  show Gd 0 2215 [(some (.inr (.inr (some SCR)))), (some (.inr (.inr (some 0)))), (some (.inr (.inr (some 682)))), (some (.inr (.inr (some 726)))), (some (.inl x4)), d5, d6] [] σ k n o
  refine g_aload_n 2216 (show op 0 2215 = some (.aload_n 1, 1) by decide +kernel) rfl rfl ?_
  refine g_aload_n 2217 (show op 0 2216 = some (.aload_n 0, 1) by decide +kernel) rfl rfl ?_
  refine g_iload 2219 (show op 0 2217 = some (.iload 4, 2) by decide +kernel) rfl rfl ?_
  refine g_iconst 2220 (show op 0 2219 = some (.iconst 1, 1) by decide +kernel) rfl rfl ?_
  obtain ⟨g1, h⟩ := h
  refine g_iadd 2221 (show op 0 2220 = some (.iadd, 1) by decide +kernel) rfl g1 ?_
  obtain ⟨g2, h⟩ := h
  refine g_scr 2222 (show op 0 2221 = some (.iaload, 1) by decide +kernel) rfl g2 ?_
  refine g_aload_n 2223 (show op 0 2222 = some (.aload_n 0, 1) by decide +kernel) rfl rfl ?_
  refine g_iload 2225 (show op 0 2223 = some (.iload 4, 2) by decide +kernel) rfl rfl ?_
  refine g_iconst 2226 (show op 0 2225 = some (.iconst 2, 1) by decide +kernel) rfl rfl ?_
  obtain ⟨g3, h⟩ := h
  refine g_iadd 2227 (show op 0 2226 = some (.iadd, 1) by decide +kernel) rfl g3 ?_
  obtain ⟨g4, h⟩ := h
  refine g_scr 2228 (show op 0 2227 = some (.iaload, 1) by decide +kernel) rfl g4 ?_
  refine g_aload_n 2229 (show op 0 2228 = some (.aload_n 0, 1) by decide +kernel) rfl rfl ?_
  refine g_iload 2231 (show op 0 2229 = some (.iload 4, 2) by decide +kernel) rfl rfl ?_
  refine g_iconst 2232 (show op 0 2231 = some (.iconst 3, 1) by decide +kernel) rfl rfl ?_
  obtain ⟨g5, h⟩ := h
  refine g_iadd 2233 (show op 0 2232 = some (.iadd, 1) by decide +kernel) rfl g5 ?_
  obtain ⟨g6, h⟩ := h
  refine g_scr 2234 (show op 0 2233 = some (.iaload, 1) by decide +kernel) rfl g6 ?_
  refine g_aload_n 2235 (show op 0 2234 = some (.aload_n 3, 1) by decide +kernel) rfl rfl ?_
  obtain ⟨g10, h⟩ := h
  obtain ⟨v8, s7, hD9, h⟩ := h
  refine g_call 2238 [(.inl v8)] (show op 0 2235 = some (.invokestatic 282, 3) by decide +kernel) (call_stL (c := 3) (s := 18) (nj := 5) (j := 416) (t := []) (as := [(.inr (.inr (some 0))), (.inl (σ SCR ((x4 + 1)).toNat)), (.inl (σ SCR ((x4 + 2)).toNat)), (.inl (σ SCR ((x4 + 3)).toNat)), (.inr (.inr (some 726)))]) (by decide +kernel) rfl (by decide +kernel) g10 rfl rfl rfl rfl rfl) hD9 rfl ?_
  refine g_istore 2240 [(some (.inr (.inr (some SCR)))), (some (.inr (.inr (some 0)))), (some (.inr (.inr (some 682)))), (some (.inr (.inr (some 726)))), (some (.inl x4)), (some (.inl v8)), d6] (show op 0 2238 = some (.istore 5, 2) by decide +kernel) rfl rfl rfl ?_
  refine g_aload_n 2241 (show op 0 2240 = some (.aload_n 2, 1) by decide +kernel) rfl rfl ?_
  refine g_aload_n 2242 (show op 0 2241 = some (.aload_n 0, 1) by decide +kernel) rfl rfl ?_
  refine g_iload 2244 (show op 0 2242 = some (.iload 4, 2) by decide +kernel) rfl rfl ?_
  refine g_iconst 2245 (show op 0 2244 = some (.iconst 1, 1) by decide +kernel) rfl rfl ?_
  obtain ⟨g11, h⟩ := h
  refine g_iadd 2246 (show op 0 2245 = some (.iadd, 1) by decide +kernel) rfl g11 ?_
  obtain ⟨g12, h⟩ := h
  refine g_scr 2247 (show op 0 2246 = some (.iaload, 1) by decide +kernel) rfl g12 ?_
  refine g_aload_n 2248 (show op 0 2247 = some (.aload_n 0, 1) by decide +kernel) rfl rfl ?_
  refine g_iload 2250 (show op 0 2248 = some (.iload 4, 2) by decide +kernel) rfl rfl ?_
  refine g_iconst 2251 (show op 0 2250 = some (.iconst 2, 1) by decide +kernel) rfl rfl ?_
  obtain ⟨g13, h⟩ := h
  refine g_iadd 2252 (show op 0 2251 = some (.iadd, 1) by decide +kernel) rfl g13 ?_
  obtain ⟨g14, h⟩ := h
  refine g_scr 2253 (show op 0 2252 = some (.iaload, 1) by decide +kernel) rfl g14 ?_
  refine g_aload_n 2254 (show op 0 2253 = some (.aload_n 0, 1) by decide +kernel) rfl rfl ?_
  refine g_iload 2256 (show op 0 2254 = some (.iload 4, 2) by decide +kernel) rfl rfl ?_
  refine g_iconst 2257 (show op 0 2256 = some (.iconst 3, 1) by decide +kernel) rfl rfl ?_
  obtain ⟨g15, h⟩ := h
  refine g_iadd 2258 (show op 0 2257 = some (.iadd, 1) by decide +kernel) rfl g15 ?_
  obtain ⟨g16, h⟩ := h
  refine g_scr 2259 (show op 0 2258 = some (.iaload, 1) by decide +kernel) rfl g16 ?_
  obtain ⟨g20, h⟩ := h
  obtain ⟨v18, s17, hD19, h⟩ := h
  refine g_call 2262 [(.inl v18)] (show op 0 2259 = some (.invokevirtual 284, 3) by decide +kernel) (call_viL (c := 0) (s := 0) (nj := 4) (j := 339) (k9 := 21) (t := []) (as := [(.inr (.inr (some 682))), (.inl (s7 SCR ((x4 + 1)).toNat)), (.inl (s7 SCR ((x4 + 2)).toNat)), (.inl (s7 SCR ((x4 + 3)).toNat))]) (by decide +kernel) rfl (by decide +kernel) g20 rfl rfl rfl rfl rfl rfl (by decide +kernel) (by decide +kernel)) hD19 rfl ?_
  refine g_istore 2264 [(some (.inr (.inr (some SCR)))), (some (.inr (.inr (some 0)))), (some (.inr (.inr (some 682)))), (some (.inr (.inr (some 726)))), (some (.inl x4)), (some (.inl v8)), (some (.inl v18))] (show op 0 2262 = some (.istore 6, 2) by decide +kernel) rfl rfl rfl ?_
  refine g_aload_n 2265 (show op 0 2264 = some (.aload_n 2, 1) by decide +kernel) rfl rfl ?_
  obtain ⟨g24, h⟩ := h
  obtain ⟨v22, s21, hD23, h⟩ := h
  refine g_call 2268 [(.inl v22)] (show op 0 2265 = some (.invokevirtual 194, 3) by decide +kernel) (call_viL (c := 0) (s := 0) (nj := 1) (j := 244) (k9 := 21) (t := []) (as := [(.inr (.inr (some 682)))]) (by decide +kernel) rfl (by decide +kernel) g24 rfl rfl rfl rfl rfl rfl (by decide +kernel) (by decide +kernel)) hD23 rfl ?_
  refine g_iload 2270 (show op 0 2268 = some (.iload 5, 2) by decide +kernel) rfl rfl ?_
  by_cases hc25 : v22 = v8
  · rw [if_pos hc25] at h
    refine g_icmpT 2275 (show op 0 2270 = some (.if_icmp .eq 5, 3) by decide +kernel) rfl (decide_eq_true hc25) ?_
    refine g_iload 2277 (show op 0 2275 = some (.iload 5, 2) by decide +kernel) rfl rfl ?_
    by_cases hc26 : v8 = 0
    · rw [if_pos hc26] at h
      refine g_ifF 2280 2292 (show op 0 2277 = some (.ifCond .ne 15, 3) by decide +kernel) rfl rfl (decide_eq_false (fun h9 => h9 hc26)) ?_
      refine g_aload_n 2281 (show op 0 2280 = some (.aload_n 3, 1) by decide +kernel) rfl rfl ?_
      refine g_iconst 2282 (show op 0 2281 = some (.iconst 0, 1) by decide +kernel) rfl rfl ?_
      refine g_laload 2283 1 (show op 0 2282 = some (.laload, 1) by decide +kernel) rfl (by decide +kernel) (by decide) ?_
      refine g_iload 2285 (show op 0 2283 = some (.iload 6, 2) by decide +kernel) rfl rfl ?_
      refine g_i2l 2286 (show op 0 2285 = some (.i2l, 1) by decide +kernel) rfl ?_
      refine g_lcmp 2287 (show op 0 2286 = some (.lcmp, 1) by decide +kernel) rfl ?_
      by_cases hc27 : (if v18 < (s21 726 (0 : Int).toNat) then 1 else if (s21 726 (0 : Int).toNat) = v18 then 0 else -1) = 0
      · rw [if_pos hc27] at h
        refine g_ifT 2292 (show op 0 2287 = some (.ifCond .eq 5, 3) by decide +kernel) rfl (decide_eq_true hc27) ?_
        exact h
      · rw [if_neg hc27] at h
        refine g_ifF 2290 2292 (show op 0 2287 = some (.ifCond .eq 5, 3) by decide +kernel) rfl rfl (decide_eq_false hc27) ?_
        refine g_iconst 2291 (show op 0 2290 = some (.iconst 0, 1) by decide +kernel) rfl rfl ?_
        exact (g_zret (show op 0 2291 = some (.ireturn, 1) by decide +kernel) (by decide +kernel) (by decide) h)
    · rw [if_neg hc26] at h
      refine g_ifT 2292 (show op 0 2277 = some (.ifCond .ne 15, 3) by decide +kernel) rfl (decide_eq_true hc26) ?_
      exact h
  · rw [if_neg hc25] at h
    refine g_icmpF 2273 2275 (show op 0 2270 = some (.if_icmp .eq 5, 3) by decide +kernel) rfl rfl (decide_eq_false hc25) ?_
    refine g_iconst 2274 (show op 0 2273 = some (.iconst 0, 1) by decide +kernel) rfl rfl ?_
    exact (g_zret (show op 0 2274 = some (.ireturn, 1) by decide +kernel) (by decide +kernel) (by decide) h)
theorem b0_2295 {x4 : Int} {d5 : Option AV} {d6 : Option AV} {k : Nat} {n : Nat} {σ : Sg} {o : Rs} (h : (-2147483648 ≤ (x4 + 1) ∧ (x4 + 1) ≤ 2147483647) ∧ (0 ≤ (x4 + 1) ∧ (x4 + 1) < σ (SCR + 1) 0) ∧ ((k + 2) ≤ 601024 ∧ (n + 12) ≤ 7293034) ∧ (∃ (v4 : Int) (s3 : Sg), Dd 417 [(.inr (.inr (some 0))), (.inl (σ SCR ((x4 + 1)).toNat)), (.inr (.inr (some 726)))] σ (.inl (some (.inl v4)), s3) ∧ (-2147483648 ≤ (x4 + 1) ∧ (x4 + 1) ≤ 2147483647) ∧ (0 ≤ (x4 + 1) ∧ (x4 + 1) < s3 (SCR + 1) 0) ∧ ((k + 2) ≤ 601024 ∧ (n + 12) ≤ 7293034) ∧ (∃ (v10 : Int) (s9 : Sg), Dd 343 [(.inr (.inr (some 682))), (.inl (s3 SCR ((x4 + 1)).toNat))] s3 (.inl (some (.inl v10)), s9) ∧ ((k + 2) ≤ 601024 ∧ (n + 12) ≤ 7293034) ∧ (∃ (v14 : Int) (s13 : Sg), Dd 244 [(.inr (.inr (some 682)))] s9 (.inl (some (.inl v14)), s13) ∧ (if v14 = v4 then (if v4 = 0 then (if (if v10 < (s13 726 (0 : Int).toNat) then 1 else if (s13 726 (0 : Int).toNat) = v10 then 0 else -1) = 0 then C0_2348 x4 (some (.inl v4)) (some (.inl v10)) (k + 2) (n + 12) s13 o else o = (.inl (some (.inl 0)), s13)) else C0_2348 x4 (some (.inl v4)) (some (.inl v10)) (k + 2) (n + 12) s13 o) else o = (.inl (some (.inl 0)), s13)))))) : C0_2295 x4 d5 d6 k n σ o := by
  show Gd 0 2295 [(some (.inr (.inr (some SCR)))), (some (.inr (.inr (some 0)))), (some (.inr (.inr (some 682)))), (some (.inr (.inr (some 726)))), (some (.inl x4)), d5, d6] [] σ k n o
  refine g_aload_n 2296 (show op 0 2295 = some (.aload_n 1, 1) by decide +kernel) rfl rfl ?_
  refine g_aload_n 2297 (show op 0 2296 = some (.aload_n 0, 1) by decide +kernel) rfl rfl ?_
  refine g_iload 2299 (show op 0 2297 = some (.iload 4, 2) by decide +kernel) rfl rfl ?_
  refine g_iconst 2300 (show op 0 2299 = some (.iconst 1, 1) by decide +kernel) rfl rfl ?_
  obtain ⟨g1, h⟩ := h
  refine g_iadd 2301 (show op 0 2300 = some (.iadd, 1) by decide +kernel) rfl g1 ?_
  obtain ⟨g2, h⟩ := h
  refine g_scr 2302 (show op 0 2301 = some (.iaload, 1) by decide +kernel) rfl g2 ?_
  refine g_aload_n 2303 (show op 0 2302 = some (.aload_n 3, 1) by decide +kernel) rfl rfl ?_
  obtain ⟨g6, h⟩ := h
  obtain ⟨v4, s3, hD5, h⟩ := h
  refine g_call 2306 [(.inl v4)] (show op 0 2303 = some (.invokestatic 285, 3) by decide +kernel) (call_stL (c := 2) (s := 12) (nj := 3) (j := 417) (t := []) (as := [(.inr (.inr (some 0))), (.inl (σ SCR ((x4 + 1)).toNat)), (.inr (.inr (some 726)))]) (by decide +kernel) rfl (by decide +kernel) g6 rfl rfl rfl rfl rfl) hD5 rfl ?_
  refine g_istore 2308 [(some (.inr (.inr (some SCR)))), (some (.inr (.inr (some 0)))), (some (.inr (.inr (some 682)))), (some (.inr (.inr (some 726)))), (some (.inl x4)), (some (.inl v4)), d6] (show op 0 2306 = some (.istore 5, 2) by decide +kernel) rfl rfl rfl ?_
  refine g_aload_n 2309 (show op 0 2308 = some (.aload_n 2, 1) by decide +kernel) rfl rfl ?_
  refine g_aload_n 2310 (show op 0 2309 = some (.aload_n 0, 1) by decide +kernel) rfl rfl ?_
  refine g_iload 2312 (show op 0 2310 = some (.iload 4, 2) by decide +kernel) rfl rfl ?_
  refine g_iconst 2313 (show op 0 2312 = some (.iconst 1, 1) by decide +kernel) rfl rfl ?_
  obtain ⟨g7, h⟩ := h
  refine g_iadd 2314 (show op 0 2313 = some (.iadd, 1) by decide +kernel) rfl g7 ?_
  obtain ⟨g8, h⟩ := h
  refine g_scr 2315 (show op 0 2314 = some (.iaload, 1) by decide +kernel) rfl g8 ?_
  obtain ⟨g12, h⟩ := h
  obtain ⟨v10, s9, hD11, h⟩ := h
  refine g_call 2318 [(.inl v10)] (show op 0 2315 = some (.invokevirtual 287, 3) by decide +kernel) (call_viL (c := 0) (s := 0) (nj := 2) (j := 343) (k9 := 21) (t := []) (as := [(.inr (.inr (some 682))), (.inl (s3 SCR ((x4 + 1)).toNat))]) (by decide +kernel) rfl (by decide +kernel) g12 rfl rfl rfl rfl rfl rfl (by decide +kernel) (by decide +kernel)) hD11 rfl ?_
  refine g_istore 2320 [(some (.inr (.inr (some SCR)))), (some (.inr (.inr (some 0)))), (some (.inr (.inr (some 682)))), (some (.inr (.inr (some 726)))), (some (.inl x4)), (some (.inl v4)), (some (.inl v10))] (show op 0 2318 = some (.istore 6, 2) by decide +kernel) rfl rfl rfl ?_
  refine g_aload_n 2321 (show op 0 2320 = some (.aload_n 2, 1) by decide +kernel) rfl rfl ?_
  obtain ⟨g16, h⟩ := h
  obtain ⟨v14, s13, hD15, h⟩ := h
  refine g_call 2324 [(.inl v14)] (show op 0 2321 = some (.invokevirtual 194, 3) by decide +kernel) (call_viL (c := 0) (s := 0) (nj := 1) (j := 244) (k9 := 21) (t := []) (as := [(.inr (.inr (some 682)))]) (by decide +kernel) rfl (by decide +kernel) g16 rfl rfl rfl rfl rfl rfl (by decide +kernel) (by decide +kernel)) hD15 rfl ?_
  refine g_iload 2326 (show op 0 2324 = some (.iload 5, 2) by decide +kernel) rfl rfl ?_
  by_cases hc17 : v14 = v4
  · rw [if_pos hc17] at h
    refine g_icmpT 2331 (show op 0 2326 = some (.if_icmp .eq 5, 3) by decide +kernel) rfl (decide_eq_true hc17) ?_
    refine g_iload 2333 (show op 0 2331 = some (.iload 5, 2) by decide +kernel) rfl rfl ?_
    by_cases hc18 : v4 = 0
    · rw [if_pos hc18] at h
      refine g_ifF 2336 2348 (show op 0 2333 = some (.ifCond .ne 15, 3) by decide +kernel) rfl rfl (decide_eq_false (fun h9 => h9 hc18)) ?_
      refine g_aload_n 2337 (show op 0 2336 = some (.aload_n 3, 1) by decide +kernel) rfl rfl ?_
      refine g_iconst 2338 (show op 0 2337 = some (.iconst 0, 1) by decide +kernel) rfl rfl ?_
      refine g_laload 2339 1 (show op 0 2338 = some (.laload, 1) by decide +kernel) rfl (by decide +kernel) (by decide) ?_
      refine g_iload 2341 (show op 0 2339 = some (.iload 6, 2) by decide +kernel) rfl rfl ?_
      refine g_i2l 2342 (show op 0 2341 = some (.i2l, 1) by decide +kernel) rfl ?_
      refine g_lcmp 2343 (show op 0 2342 = some (.lcmp, 1) by decide +kernel) rfl ?_
      by_cases hc19 : (if v10 < (s13 726 (0 : Int).toNat) then 1 else if (s13 726 (0 : Int).toNat) = v10 then 0 else -1) = 0
      · rw [if_pos hc19] at h
        refine g_ifT 2348 (show op 0 2343 = some (.ifCond .eq 5, 3) by decide +kernel) rfl (decide_eq_true hc19) ?_
        exact h
      · rw [if_neg hc19] at h
        refine g_ifF 2346 2348 (show op 0 2343 = some (.ifCond .eq 5, 3) by decide +kernel) rfl rfl (decide_eq_false hc19) ?_
        refine g_iconst 2347 (show op 0 2346 = some (.iconst 0, 1) by decide +kernel) rfl rfl ?_
        exact (g_zret (show op 0 2347 = some (.ireturn, 1) by decide +kernel) (by decide +kernel) (by decide) h)
    · rw [if_neg hc18] at h
      refine g_ifT 2348 (show op 0 2333 = some (.ifCond .ne 15, 3) by decide +kernel) rfl (decide_eq_true hc18) ?_
      exact h
  · rw [if_neg hc17] at h
    refine g_icmpF 2329 2331 (show op 0 2326 = some (.if_icmp .eq 5, 3) by decide +kernel) rfl rfl (decide_eq_false hc17) ?_
    refine g_iconst 2330 (show op 0 2329 = some (.iconst 0, 1) by decide +kernel) rfl rfl ?_
    exact (g_zret (show op 0 2330 = some (.ireturn, 1) by decide +kernel) (by decide +kernel) (by decide) h)
theorem b0_2351 {x4 : Int} {d5 : Option AV} {d6 : Option AV} {k : Nat} {n : Nat} {σ : Sg} {o : Rs} (h : (-2147483648 ≤ (x4 + 1) ∧ (x4 + 1) ≤ 2147483647) ∧ (0 ≤ (x4 + 1) ∧ (x4 + 1) < σ (SCR + 1) 0) ∧ ((k + 3) ≤ 601024 ∧ (n + 18) ≤ 7293034) ∧ (∃ (v4 : Int) (s3 : Sg), Dd 418 [(.inr (.inr (some 0))), (.inl (σ SCR ((x4 + 1)).toNat)), (.inr (.inr (some 726)))] σ (.inl (some (.inl v4)), s3) ∧ (-2147483648 ≤ (x4 + 1) ∧ (x4 + 1) ≤ 2147483647) ∧ (0 ≤ (x4 + 1) ∧ (x4 + 1) < s3 (SCR + 1) 0) ∧ ((k + 3) ≤ 601024 ∧ (n + 18) ≤ 7293034) ∧ (∃ (v10 : Int) (s9 : Sg), Dd 345 [(.inr (.inr (some 682))), (.inl (s3 SCR ((x4 + 1)).toNat))] s3 (.inl (some (.inl v10)), s9) ∧ ((k + 3) ≤ 601024 ∧ (n + 18) ≤ 7293034) ∧ (∃ (v14 : Int) (s13 : Sg), Dd 244 [(.inr (.inr (some 682)))] s9 (.inl (some (.inl v14)), s13) ∧ (if v14 = v4 then (if v4 = 0 then (if (if v10 < (s13 726 (0 : Int).toNat) then 1 else if (s13 726 (0 : Int).toNat) = v10 then 0 else -1) = 0 then C0_2404 x4 (some (.inl v4)) (some (.inl v10)) (k + 3) (n + 18) s13 o else o = (.inl (some (.inl 0)), s13)) else C0_2404 x4 (some (.inl v4)) (some (.inl v10)) (k + 3) (n + 18) s13 o) else o = (.inl (some (.inl 0)), s13)))))) : C0_2351 x4 d5 d6 k n σ o := by
  show Gd 0 2351 [(some (.inr (.inr (some SCR)))), (some (.inr (.inr (some 0)))), (some (.inr (.inr (some 682)))), (some (.inr (.inr (some 726)))), (some (.inl x4)), d5, d6] [] σ k n o
  refine g_aload_n 2352 (show op 0 2351 = some (.aload_n 1, 1) by decide +kernel) rfl rfl ?_
  refine g_aload_n 2353 (show op 0 2352 = some (.aload_n 0, 1) by decide +kernel) rfl rfl ?_
  refine g_iload 2355 (show op 0 2353 = some (.iload 4, 2) by decide +kernel) rfl rfl ?_
  refine g_iconst 2356 (show op 0 2355 = some (.iconst 1, 1) by decide +kernel) rfl rfl ?_
  obtain ⟨g1, h⟩ := h
  refine g_iadd 2357 (show op 0 2356 = some (.iadd, 1) by decide +kernel) rfl g1 ?_
  obtain ⟨g2, h⟩ := h
  refine g_scr 2358 (show op 0 2357 = some (.iaload, 1) by decide +kernel) rfl g2 ?_
  refine g_aload_n 2359 (show op 0 2358 = some (.aload_n 3, 1) by decide +kernel) rfl rfl ?_
  obtain ⟨g6, h⟩ := h
  obtain ⟨v4, s3, hD5, h⟩ := h
  refine g_call 2362 [(.inl v4)] (show op 0 2359 = some (.invokestatic 288, 3) by decide +kernel) (call_stL (c := 3) (s := 18) (nj := 3) (j := 418) (t := []) (as := [(.inr (.inr (some 0))), (.inl (σ SCR ((x4 + 1)).toNat)), (.inr (.inr (some 726)))]) (by decide +kernel) rfl (by decide +kernel) g6 rfl rfl rfl rfl rfl) hD5 rfl ?_
  refine g_istore 2364 [(some (.inr (.inr (some SCR)))), (some (.inr (.inr (some 0)))), (some (.inr (.inr (some 682)))), (some (.inr (.inr (some 726)))), (some (.inl x4)), (some (.inl v4)), d6] (show op 0 2362 = some (.istore 5, 2) by decide +kernel) rfl rfl rfl ?_
  refine g_aload_n 2365 (show op 0 2364 = some (.aload_n 2, 1) by decide +kernel) rfl rfl ?_
  refine g_aload_n 2366 (show op 0 2365 = some (.aload_n 0, 1) by decide +kernel) rfl rfl ?_
  refine g_iload 2368 (show op 0 2366 = some (.iload 4, 2) by decide +kernel) rfl rfl ?_
  refine g_iconst 2369 (show op 0 2368 = some (.iconst 1, 1) by decide +kernel) rfl rfl ?_
  obtain ⟨g7, h⟩ := h
  refine g_iadd 2370 (show op 0 2369 = some (.iadd, 1) by decide +kernel) rfl g7 ?_
  obtain ⟨g8, h⟩ := h
  refine g_scr 2371 (show op 0 2370 = some (.iaload, 1) by decide +kernel) rfl g8 ?_
  obtain ⟨g12, h⟩ := h
  obtain ⟨v10, s9, hD11, h⟩ := h
  refine g_call 2374 [(.inl v10)] (show op 0 2371 = some (.invokevirtual 290, 3) by decide +kernel) (call_viL (c := 0) (s := 0) (nj := 2) (j := 345) (k9 := 21) (t := []) (as := [(.inr (.inr (some 682))), (.inl (s3 SCR ((x4 + 1)).toNat))]) (by decide +kernel) rfl (by decide +kernel) g12 rfl rfl rfl rfl rfl rfl (by decide +kernel) (by decide +kernel)) hD11 rfl ?_
  refine g_istore 2376 [(some (.inr (.inr (some SCR)))), (some (.inr (.inr (some 0)))), (some (.inr (.inr (some 682)))), (some (.inr (.inr (some 726)))), (some (.inl x4)), (some (.inl v4)), (some (.inl v10))] (show op 0 2374 = some (.istore 6, 2) by decide +kernel) rfl rfl rfl ?_
  refine g_aload_n 2377 (show op 0 2376 = some (.aload_n 2, 1) by decide +kernel) rfl rfl ?_
  obtain ⟨g16, h⟩ := h
  obtain ⟨v14, s13, hD15, h⟩ := h
  refine g_call 2380 [(.inl v14)] (show op 0 2377 = some (.invokevirtual 194, 3) by decide +kernel) (call_viL (c := 0) (s := 0) (nj := 1) (j := 244) (k9 := 21) (t := []) (as := [(.inr (.inr (some 682)))]) (by decide +kernel) rfl (by decide +kernel) g16 rfl rfl rfl rfl rfl rfl (by decide +kernel) (by decide +kernel)) hD15 rfl ?_
  refine g_iload 2382 (show op 0 2380 = some (.iload 5, 2) by decide +kernel) rfl rfl ?_
  by_cases hc17 : v14 = v4
  · rw [if_pos hc17] at h
    refine g_icmpT 2387 (show op 0 2382 = some (.if_icmp .eq 5, 3) by decide +kernel) rfl (decide_eq_true hc17) ?_
    refine g_iload 2389 (show op 0 2387 = some (.iload 5, 2) by decide +kernel) rfl rfl ?_
    by_cases hc18 : v4 = 0
    · rw [if_pos hc18] at h
      refine g_ifF 2392 2404 (show op 0 2389 = some (.ifCond .ne 15, 3) by decide +kernel) rfl rfl (decide_eq_false (fun h9 => h9 hc18)) ?_
      refine g_aload_n 2393 (show op 0 2392 = some (.aload_n 3, 1) by decide +kernel) rfl rfl ?_
      refine g_iconst 2394 (show op 0 2393 = some (.iconst 0, 1) by decide +kernel) rfl rfl ?_
      refine g_laload 2395 1 (show op 0 2394 = some (.laload, 1) by decide +kernel) rfl (by decide +kernel) (by decide) ?_
      refine g_iload 2397 (show op 0 2395 = some (.iload 6, 2) by decide +kernel) rfl rfl ?_
      refine g_i2l 2398 (show op 0 2397 = some (.i2l, 1) by decide +kernel) rfl ?_
      refine g_lcmp 2399 (show op 0 2398 = some (.lcmp, 1) by decide +kernel) rfl ?_
      by_cases hc19 : (if v10 < (s13 726 (0 : Int).toNat) then 1 else if (s13 726 (0 : Int).toNat) = v10 then 0 else -1) = 0
      · rw [if_pos hc19] at h
        refine g_ifT 2404 (show op 0 2399 = some (.ifCond .eq 5, 3) by decide +kernel) rfl (decide_eq_true hc19) ?_
        exact h
      · rw [if_neg hc19] at h
        refine g_ifF 2402 2404 (show op 0 2399 = some (.ifCond .eq 5, 3) by decide +kernel) rfl rfl (decide_eq_false hc19) ?_
        refine g_iconst 2403 (show op 0 2402 = some (.iconst 0, 1) by decide +kernel) rfl rfl ?_
        exact (g_zret (show op 0 2403 = some (.ireturn, 1) by decide +kernel) (by decide +kernel) (by decide) h)
    · rw [if_neg hc18] at h
      refine g_ifT 2404 (show op 0 2389 = some (.ifCond .ne 15, 3) by decide +kernel) rfl (decide_eq_true hc18) ?_
      exact h
  · rw [if_neg hc17] at h
    refine g_icmpF 2385 2387 (show op 0 2382 = some (.if_icmp .eq 5, 3) by decide +kernel) rfl rfl (decide_eq_false hc17) ?_
    refine g_iconst 2386 (show op 0 2385 = some (.iconst 0, 1) by decide +kernel) rfl rfl ?_
    exact (g_zret (show op 0 2386 = some (.ireturn, 1) by decide +kernel) (by decide +kernel) (by decide) h)
theorem b0_2407 {x4 : Int} {d5 : Option AV} {d6 : Option AV} {k : Nat} {n : Nat} {σ : Sg} {o : Rs} (h : ((k + 1) ≤ 601024 ∧ (n + 6) ≤ 7293034) ∧ (∃ (v2 : Int) (s1 : Sg), Dd 419 [(.inr (.inr (some 0))), (.inr (.inr (some 726)))] σ (.inl (some (.inl v2)), s1) ∧ ((k + 1) ≤ 601024 ∧ (n + 6) ≤ 7293034) ∧ (∃ (v6 : Int) (s5 : Sg), Dd 346 [(.inr (.inr (some 682)))] s1 (.inl (some (.inl v6)), s5) ∧ ((k + 1) ≤ 601024 ∧ (n + 6) ≤ 7293034) ∧ (∃ (v10 : Int) (s9 : Sg), Dd 244 [(.inr (.inr (some 682)))] s5 (.inl (some (.inl v10)), s9) ∧ (if v10 = v2 then (if v2 = 0 then (if (if v6 < (s9 726 (0 : Int).toNat) then 1 else if (s9 726 (0 : Int).toNat) = v6 then 0 else -1) = 0 then C0_2448 x4 (some (.inl v2)) (some (.inl v6)) (k + 1) (n + 6) s9 o else o = (.inl (some (.inl 0)), s9)) else C0_2448 x4 (some (.inl v2)) (some (.inl v6)) (k + 1) (n + 6) s9 o) else o = (.inl (some (.inl 0)), s9)))))) : C0_2407 x4 d5 d6 k n σ o := by
  show Gd 0 2407 [(some (.inr (.inr (some SCR)))), (some (.inr (.inr (some 0)))), (some (.inr (.inr (some 682)))), (some (.inr (.inr (some 726)))), (some (.inl x4)), d5, d6] [] σ k n o
  refine g_aload_n 2408 (show op 0 2407 = some (.aload_n 1, 1) by decide +kernel) rfl rfl ?_
  refine g_aload_n 2409 (show op 0 2408 = some (.aload_n 3, 1) by decide +kernel) rfl rfl ?_
  obtain ⟨g4, h⟩ := h
  obtain ⟨v2, s1, hD3, h⟩ := h
  refine g_call 2412 [(.inl v2)] (show op 0 2409 = some (.invokestatic 291, 3) by decide +kernel) (call_stL (c := 1) (s := 6) (nj := 2) (j := 419) (t := []) (as := [(.inr (.inr (some 0))), (.inr (.inr (some 726)))]) (by decide +kernel) rfl (by decide +kernel) g4 rfl rfl rfl rfl rfl) hD3 rfl ?_
  refine g_istore 2414 [(some (.inr (.inr (some SCR)))), (some (.inr (.inr (some 0)))), (some (.inr (.inr (some 682)))), (some (.inr (.inr (some 726)))), (some (.inl x4)), (some (.inl v2)), d6] (show op 0 2412 = some (.istore 5, 2) by decide +kernel) rfl rfl rfl ?_
  refine g_aload_n 2415 (show op 0 2414 = some (.aload_n 2, 1) by decide +kernel) rfl rfl ?_
  obtain ⟨g8, h⟩ := h
  obtain ⟨v6, s5, hD7, h⟩ := h
  refine g_call 2418 [(.inl v6)] (show op 0 2415 = some (.invokevirtual 294, 3) by decide +kernel) (call_viL (c := 0) (s := 0) (nj := 1) (j := 346) (k9 := 21) (t := []) (as := [(.inr (.inr (some 682)))]) (by decide +kernel) rfl (by decide +kernel) g8 rfl rfl rfl rfl rfl rfl (by decide +kernel) (by decide +kernel)) hD7 rfl ?_
  refine g_istore 2420 [(some (.inr (.inr (some SCR)))), (some (.inr (.inr (some 0)))), (some (.inr (.inr (some 682)))), (some (.inr (.inr (some 726)))), (some (.inl x4)), (some (.inl v2)), (some (.inl v6))] (show op 0 2418 = some (.istore 6, 2) by decide +kernel) rfl rfl rfl ?_
  refine g_aload_n 2421 (show op 0 2420 = some (.aload_n 2, 1) by decide +kernel) rfl rfl ?_
  obtain ⟨g12, h⟩ := h
  obtain ⟨v10, s9, hD11, h⟩ := h
  refine g_call 2424 [(.inl v10)] (show op 0 2421 = some (.invokevirtual 194, 3) by decide +kernel) (call_viL (c := 0) (s := 0) (nj := 1) (j := 244) (k9 := 21) (t := []) (as := [(.inr (.inr (some 682)))]) (by decide +kernel) rfl (by decide +kernel) g12 rfl rfl rfl rfl rfl rfl (by decide +kernel) (by decide +kernel)) hD11 rfl ?_
  refine g_iload 2426 (show op 0 2424 = some (.iload 5, 2) by decide +kernel) rfl rfl ?_
  by_cases hc13 : v10 = v2
  · rw [if_pos hc13] at h
    refine g_icmpT 2431 (show op 0 2426 = some (.if_icmp .eq 5, 3) by decide +kernel) rfl (decide_eq_true hc13) ?_
    refine g_iload 2433 (show op 0 2431 = some (.iload 5, 2) by decide +kernel) rfl rfl ?_
    by_cases hc14 : v2 = 0
    · rw [if_pos hc14] at h
      refine g_ifF 2436 2448 (show op 0 2433 = some (.ifCond .ne 15, 3) by decide +kernel) rfl rfl (decide_eq_false (fun h9 => h9 hc14)) ?_
      refine g_aload_n 2437 (show op 0 2436 = some (.aload_n 3, 1) by decide +kernel) rfl rfl ?_
      refine g_iconst 2438 (show op 0 2437 = some (.iconst 0, 1) by decide +kernel) rfl rfl ?_
      refine g_laload 2439 1 (show op 0 2438 = some (.laload, 1) by decide +kernel) rfl (by decide +kernel) (by decide) ?_
      refine g_iload 2441 (show op 0 2439 = some (.iload 6, 2) by decide +kernel) rfl rfl ?_
      refine g_i2l 2442 (show op 0 2441 = some (.i2l, 1) by decide +kernel) rfl ?_
      refine g_lcmp 2443 (show op 0 2442 = some (.lcmp, 1) by decide +kernel) rfl ?_
      by_cases hc15 : (if v6 < (s9 726 (0 : Int).toNat) then 1 else if (s9 726 (0 : Int).toNat) = v6 then 0 else -1) = 0
      · rw [if_pos hc15] at h
        refine g_ifT 2448 (show op 0 2443 = some (.ifCond .eq 5, 3) by decide +kernel) rfl (decide_eq_true hc15) ?_
        exact h
      · rw [if_neg hc15] at h
        refine g_ifF 2446 2448 (show op 0 2443 = some (.ifCond .eq 5, 3) by decide +kernel) rfl rfl (decide_eq_false hc15) ?_
        refine g_iconst 2447 (show op 0 2446 = some (.iconst 0, 1) by decide +kernel) rfl rfl ?_
        exact (g_zret (show op 0 2447 = some (.ireturn, 1) by decide +kernel) (by decide +kernel) (by decide) h)
    · rw [if_neg hc14] at h
      refine g_ifT 2448 (show op 0 2433 = some (.ifCond .ne 15, 3) by decide +kernel) rfl (decide_eq_true hc14) ?_
      exact h
  · rw [if_neg hc13] at h
    refine g_icmpF 2429 2431 (show op 0 2426 = some (.if_icmp .eq 5, 3) by decide +kernel) rfl rfl (decide_eq_false hc13) ?_
    refine g_iconst 2430 (show op 0 2429 = some (.iconst 0, 1) by decide +kernel) rfl rfl ?_
    exact (g_zret (show op 0 2430 = some (.ireturn, 1) by decide +kernel) (by decide +kernel) (by decide) h)
theorem b0_2451 {x4 : Int} {d5 : Option AV} {d6 : Option AV} {k : Nat} {n : Nat} {σ : Sg} {o : Rs} (h : (-2147483648 ≤ (x4 + 1) ∧ (x4 + 1) ≤ 2147483647) ∧ (0 ≤ (x4 + 1) ∧ (x4 + 1) < σ (SCR + 1) 0) ∧ ((k + 2) ≤ 601024 ∧ (n + 12) ≤ 7293034) ∧ (∃ (v4 : Int) (s3 : Sg), Dd 420 [(.inr (.inr (some 0))), (.inl (σ SCR ((x4 + 1)).toNat)), (.inr (.inr (some 726)))] σ (.inl (some (.inl v4)), s3) ∧ (-2147483648 ≤ (x4 + 1) ∧ (x4 + 1) ≤ 2147483647) ∧ (0 ≤ (x4 + 1) ∧ (x4 + 1) < s3 (SCR + 1) 0) ∧ ((k + 2) ≤ 601024 ∧ (n + 12) ≤ 7293034) ∧ (∃ (v10 : Int) (s9 : Sg), Dd 347 [(.inr (.inr (some 682))), (.inl (s3 SCR ((x4 + 1)).toNat))] s3 (.inl (some (.inl v10)), s9) ∧ ((k + 2) ≤ 601024 ∧ (n + 12) ≤ 7293034) ∧ (∃ (v14 : Int) (s13 : Sg), Dd 244 [(.inr (.inr (some 682)))] s9 (.inl (some (.inl v14)), s13) ∧ (if v14 = v4 then (if v4 = 0 then (if (if v10 < (s13 726 (0 : Int).toNat) then 1 else if (s13 726 (0 : Int).toNat) = v10 then 0 else -1) = 0 then C0_2504 x4 (some (.inl v4)) (some (.inl v10)) (k + 2) (n + 12) s13 o else o = (.inl (some (.inl 0)), s13)) else C0_2504 x4 (some (.inl v4)) (some (.inl v10)) (k + 2) (n + 12) s13 o) else o = (.inl (some (.inl 0)), s13)))))) : C0_2451 x4 d5 d6 k n σ o := by
  show Gd 0 2451 [(some (.inr (.inr (some SCR)))), (some (.inr (.inr (some 0)))), (some (.inr (.inr (some 682)))), (some (.inr (.inr (some 726)))), (some (.inl x4)), d5, d6] [] σ k n o
  refine g_aload_n 2452 (show op 0 2451 = some (.aload_n 1, 1) by decide +kernel) rfl rfl ?_
  refine g_aload_n 2453 (show op 0 2452 = some (.aload_n 0, 1) by decide +kernel) rfl rfl ?_
  refine g_iload 2455 (show op 0 2453 = some (.iload 4, 2) by decide +kernel) rfl rfl ?_
  refine g_iconst 2456 (show op 0 2455 = some (.iconst 1, 1) by decide +kernel) rfl rfl ?_
  obtain ⟨g1, h⟩ := h
  refine g_iadd 2457 (show op 0 2456 = some (.iadd, 1) by decide +kernel) rfl g1 ?_
  obtain ⟨g2, h⟩ := h
  refine g_scr 2458 (show op 0 2457 = some (.iaload, 1) by decide +kernel) rfl g2 ?_
  refine g_aload_n 2459 (show op 0 2458 = some (.aload_n 3, 1) by decide +kernel) rfl rfl ?_
  obtain ⟨g6, h⟩ := h
  obtain ⟨v4, s3, hD5, h⟩ := h
  refine g_call 2462 [(.inl v4)] (show op 0 2459 = some (.invokestatic 295, 3) by decide +kernel) (call_stL (c := 2) (s := 12) (nj := 3) (j := 420) (t := []) (as := [(.inr (.inr (some 0))), (.inl (σ SCR ((x4 + 1)).toNat)), (.inr (.inr (some 726)))]) (by decide +kernel) rfl (by decide +kernel) g6 rfl rfl rfl rfl rfl) hD5 rfl ?_
  refine g_istore 2464 [(some (.inr (.inr (some SCR)))), (some (.inr (.inr (some 0)))), (some (.inr (.inr (some 682)))), (some (.inr (.inr (some 726)))), (some (.inl x4)), (some (.inl v4)), d6] (show op 0 2462 = some (.istore 5, 2) by decide +kernel) rfl rfl rfl ?_
  refine g_aload_n 2465 (show op 0 2464 = some (.aload_n 2, 1) by decide +kernel) rfl rfl ?_
  refine g_aload_n 2466 (show op 0 2465 = some (.aload_n 0, 1) by decide +kernel) rfl rfl ?_
  refine g_iload 2468 (show op 0 2466 = some (.iload 4, 2) by decide +kernel) rfl rfl ?_
  refine g_iconst 2469 (show op 0 2468 = some (.iconst 1, 1) by decide +kernel) rfl rfl ?_
  obtain ⟨g7, h⟩ := h
  refine g_iadd 2470 (show op 0 2469 = some (.iadd, 1) by decide +kernel) rfl g7 ?_
  obtain ⟨g8, h⟩ := h
  refine g_scr 2471 (show op 0 2470 = some (.iaload, 1) by decide +kernel) rfl g8 ?_
  obtain ⟨g12, h⟩ := h
  obtain ⟨v10, s9, hD11, h⟩ := h
  refine g_call 2474 [(.inl v10)] (show op 0 2471 = some (.invokevirtual 297, 3) by decide +kernel) (call_viL (c := 0) (s := 0) (nj := 2) (j := 347) (k9 := 21) (t := []) (as := [(.inr (.inr (some 682))), (.inl (s3 SCR ((x4 + 1)).toNat))]) (by decide +kernel) rfl (by decide +kernel) g12 rfl rfl rfl rfl rfl rfl (by decide +kernel) (by decide +kernel)) hD11 rfl ?_
  refine g_istore 2476 [(some (.inr (.inr (some SCR)))), (some (.inr (.inr (some 0)))), (some (.inr (.inr (some 682)))), (some (.inr (.inr (some 726)))), (some (.inl x4)), (some (.inl v4)), (some (.inl v10))] (show op 0 2474 = some (.istore 6, 2) by decide +kernel) rfl rfl rfl ?_
  refine g_aload_n 2477 (show op 0 2476 = some (.aload_n 2, 1) by decide +kernel) rfl rfl ?_
  obtain ⟨g16, h⟩ := h
  obtain ⟨v14, s13, hD15, h⟩ := h
  refine g_call 2480 [(.inl v14)] (show op 0 2477 = some (.invokevirtual 194, 3) by decide +kernel) (call_viL (c := 0) (s := 0) (nj := 1) (j := 244) (k9 := 21) (t := []) (as := [(.inr (.inr (some 682)))]) (by decide +kernel) rfl (by decide +kernel) g16 rfl rfl rfl rfl rfl rfl (by decide +kernel) (by decide +kernel)) hD15 rfl ?_
  refine g_iload 2482 (show op 0 2480 = some (.iload 5, 2) by decide +kernel) rfl rfl ?_
  by_cases hc17 : v14 = v4
  · rw [if_pos hc17] at h
    refine g_icmpT 2487 (show op 0 2482 = some (.if_icmp .eq 5, 3) by decide +kernel) rfl (decide_eq_true hc17) ?_
    refine g_iload 2489 (show op 0 2487 = some (.iload 5, 2) by decide +kernel) rfl rfl ?_
    by_cases hc18 : v4 = 0
    · rw [if_pos hc18] at h
      refine g_ifF 2492 2504 (show op 0 2489 = some (.ifCond .ne 15, 3) by decide +kernel) rfl rfl (decide_eq_false (fun h9 => h9 hc18)) ?_
      refine g_aload_n 2493 (show op 0 2492 = some (.aload_n 3, 1) by decide +kernel) rfl rfl ?_
      refine g_iconst 2494 (show op 0 2493 = some (.iconst 0, 1) by decide +kernel) rfl rfl ?_
      refine g_laload 2495 1 (show op 0 2494 = some (.laload, 1) by decide +kernel) rfl (by decide +kernel) (by decide) ?_
      refine g_iload 2497 (show op 0 2495 = some (.iload 6, 2) by decide +kernel) rfl rfl ?_
      refine g_i2l 2498 (show op 0 2497 = some (.i2l, 1) by decide +kernel) rfl ?_
      refine g_lcmp 2499 (show op 0 2498 = some (.lcmp, 1) by decide +kernel) rfl ?_
      by_cases hc19 : (if v10 < (s13 726 (0 : Int).toNat) then 1 else if (s13 726 (0 : Int).toNat) = v10 then 0 else -1) = 0
      · rw [if_pos hc19] at h
        refine g_ifT 2504 (show op 0 2499 = some (.ifCond .eq 5, 3) by decide +kernel) rfl (decide_eq_true hc19) ?_
        exact h
      · rw [if_neg hc19] at h
        refine g_ifF 2502 2504 (show op 0 2499 = some (.ifCond .eq 5, 3) by decide +kernel) rfl rfl (decide_eq_false hc19) ?_
        refine g_iconst 2503 (show op 0 2502 = some (.iconst 0, 1) by decide +kernel) rfl rfl ?_
        exact (g_zret (show op 0 2503 = some (.ireturn, 1) by decide +kernel) (by decide +kernel) (by decide) h)
    · rw [if_neg hc18] at h
      refine g_ifT 2504 (show op 0 2489 = some (.ifCond .ne 15, 3) by decide +kernel) rfl (decide_eq_true hc18) ?_
      exact h
  · rw [if_neg hc17] at h
    refine g_icmpF 2485 2487 (show op 0 2482 = some (.if_icmp .eq 5, 3) by decide +kernel) rfl rfl (decide_eq_false hc17) ?_
    refine g_iconst 2486 (show op 0 2485 = some (.iconst 0, 1) by decide +kernel) rfl rfl ?_
    exact (g_zret (show op 0 2486 = some (.ireturn, 1) by decide +kernel) (by decide +kernel) (by decide) h)
theorem b0_2507 {x4 : Int} {d5 : Option AV} {d6 : Option AV} {k : Nat} {n : Nat} {σ : Sg} {o : Rs} (h : (-2147483648 ≤ (x4 + 1) ∧ (x4 + 1) ≤ 2147483647) ∧ (0 ≤ (x4 + 1) ∧ (x4 + 1) < σ (SCR + 1) 0) ∧ ((k + 2) ≤ 601024 ∧ (n + 12) ≤ 7293034) ∧ (∃ (v4 : Int) (s3 : Sg), Dd 421 [(.inr (.inr (some 0))), (.inl (σ SCR ((x4 + 1)).toNat)), (.inr (.inr (some 726)))] σ (.inl (some (.inl v4)), s3) ∧ (-2147483648 ≤ (x4 + 1) ∧ (x4 + 1) ≤ 2147483647) ∧ (0 ≤ (x4 + 1) ∧ (x4 + 1) < s3 (SCR + 1) 0) ∧ ((k + 2) ≤ 601024 ∧ (n + 12) ≤ 7293034) ∧ (∃ (v10 : Int) (s9 : Sg), Dd 348 [(.inr (.inr (some 682))), (.inl (s3 SCR ((x4 + 1)).toNat))] s3 (.inl (some (.inl v10)), s9) ∧ ((k + 2) ≤ 601024 ∧ (n + 12) ≤ 7293034) ∧ (∃ (v14 : Int) (s13 : Sg), Dd 244 [(.inr (.inr (some 682)))] s9 (.inl (some (.inl v14)), s13) ∧ (if v14 = v4 then (if v4 = 0 then (if (if v10 < (s13 726 (0 : Int).toNat) then 1 else if (s13 726 (0 : Int).toNat) = v10 then 0 else -1) = 0 then C0_2560 x4 (some (.inl v4)) (some (.inl v10)) (k + 2) (n + 12) s13 o else o = (.inl (some (.inl 0)), s13)) else C0_2560 x4 (some (.inl v4)) (some (.inl v10)) (k + 2) (n + 12) s13 o) else o = (.inl (some (.inl 0)), s13)))))) : C0_2507 x4 d5 d6 k n σ o := by
  show Gd 0 2507 [(some (.inr (.inr (some SCR)))), (some (.inr (.inr (some 0)))), (some (.inr (.inr (some 682)))), (some (.inr (.inr (some 726)))), (some (.inl x4)), d5, d6] [] σ k n o
  refine g_aload_n 2508 (show op 0 2507 = some (.aload_n 1, 1) by decide +kernel) rfl rfl ?_
  refine g_aload_n 2509 (show op 0 2508 = some (.aload_n 0, 1) by decide +kernel) rfl rfl ?_
  refine g_iload 2511 (show op 0 2509 = some (.iload 4, 2) by decide +kernel) rfl rfl ?_
  refine g_iconst 2512 (show op 0 2511 = some (.iconst 1, 1) by decide +kernel) rfl rfl ?_
  obtain ⟨g1, h⟩ := h
  refine g_iadd 2513 (show op 0 2512 = some (.iadd, 1) by decide +kernel) rfl g1 ?_
  obtain ⟨g2, h⟩ := h
  refine g_scr 2514 (show op 0 2513 = some (.iaload, 1) by decide +kernel) rfl g2 ?_
  refine g_aload_n 2515 (show op 0 2514 = some (.aload_n 3, 1) by decide +kernel) rfl rfl ?_
  obtain ⟨g6, h⟩ := h
  obtain ⟨v4, s3, hD5, h⟩ := h
  refine g_call 2518 [(.inl v4)] (show op 0 2515 = some (.invokestatic 298, 3) by decide +kernel) (call_stL (c := 2) (s := 12) (nj := 3) (j := 421) (t := []) (as := [(.inr (.inr (some 0))), (.inl (σ SCR ((x4 + 1)).toNat)), (.inr (.inr (some 726)))]) (by decide +kernel) rfl (by decide +kernel) g6 rfl rfl rfl rfl rfl) hD5 rfl ?_
  refine g_istore 2520 [(some (.inr (.inr (some SCR)))), (some (.inr (.inr (some 0)))), (some (.inr (.inr (some 682)))), (some (.inr (.inr (some 726)))), (some (.inl x4)), (some (.inl v4)), d6] (show op 0 2518 = some (.istore 5, 2) by decide +kernel) rfl rfl rfl ?_
  refine g_aload_n 2521 (show op 0 2520 = some (.aload_n 2, 1) by decide +kernel) rfl rfl ?_
  refine g_aload_n 2522 (show op 0 2521 = some (.aload_n 0, 1) by decide +kernel) rfl rfl ?_
  refine g_iload 2524 (show op 0 2522 = some (.iload 4, 2) by decide +kernel) rfl rfl ?_
  refine g_iconst 2525 (show op 0 2524 = some (.iconst 1, 1) by decide +kernel) rfl rfl ?_
  obtain ⟨g7, h⟩ := h
  refine g_iadd 2526 (show op 0 2525 = some (.iadd, 1) by decide +kernel) rfl g7 ?_
  obtain ⟨g8, h⟩ := h
  refine g_scr 2527 (show op 0 2526 = some (.iaload, 1) by decide +kernel) rfl g8 ?_
  obtain ⟨g12, h⟩ := h
  obtain ⟨v10, s9, hD11, h⟩ := h
  refine g_call 2530 [(.inl v10)] (show op 0 2527 = some (.invokevirtual 300, 3) by decide +kernel) (call_viL (c := 0) (s := 0) (nj := 2) (j := 348) (k9 := 21) (t := []) (as := [(.inr (.inr (some 682))), (.inl (s3 SCR ((x4 + 1)).toNat))]) (by decide +kernel) rfl (by decide +kernel) g12 rfl rfl rfl rfl rfl rfl (by decide +kernel) (by decide +kernel)) hD11 rfl ?_
  refine g_istore 2532 [(some (.inr (.inr (some SCR)))), (some (.inr (.inr (some 0)))), (some (.inr (.inr (some 682)))), (some (.inr (.inr (some 726)))), (some (.inl x4)), (some (.inl v4)), (some (.inl v10))] (show op 0 2530 = some (.istore 6, 2) by decide +kernel) rfl rfl rfl ?_
  refine g_aload_n 2533 (show op 0 2532 = some (.aload_n 2, 1) by decide +kernel) rfl rfl ?_
  obtain ⟨g16, h⟩ := h
  obtain ⟨v14, s13, hD15, h⟩ := h
  refine g_call 2536 [(.inl v14)] (show op 0 2533 = some (.invokevirtual 194, 3) by decide +kernel) (call_viL (c := 0) (s := 0) (nj := 1) (j := 244) (k9 := 21) (t := []) (as := [(.inr (.inr (some 682)))]) (by decide +kernel) rfl (by decide +kernel) g16 rfl rfl rfl rfl rfl rfl (by decide +kernel) (by decide +kernel)) hD15 rfl ?_
  refine g_iload 2538 (show op 0 2536 = some (.iload 5, 2) by decide +kernel) rfl rfl ?_
  by_cases hc17 : v14 = v4
  · rw [if_pos hc17] at h
    refine g_icmpT 2543 (show op 0 2538 = some (.if_icmp .eq 5, 3) by decide +kernel) rfl (decide_eq_true hc17) ?_
    refine g_iload 2545 (show op 0 2543 = some (.iload 5, 2) by decide +kernel) rfl rfl ?_
    by_cases hc18 : v4 = 0
    · rw [if_pos hc18] at h
      refine g_ifF 2548 2560 (show op 0 2545 = some (.ifCond .ne 15, 3) by decide +kernel) rfl rfl (decide_eq_false (fun h9 => h9 hc18)) ?_
      refine g_aload_n 2549 (show op 0 2548 = some (.aload_n 3, 1) by decide +kernel) rfl rfl ?_
      refine g_iconst 2550 (show op 0 2549 = some (.iconst 0, 1) by decide +kernel) rfl rfl ?_
      refine g_laload 2551 1 (show op 0 2550 = some (.laload, 1) by decide +kernel) rfl (by decide +kernel) (by decide) ?_
      refine g_iload 2553 (show op 0 2551 = some (.iload 6, 2) by decide +kernel) rfl rfl ?_
      refine g_i2l 2554 (show op 0 2553 = some (.i2l, 1) by decide +kernel) rfl ?_
      refine g_lcmp 2555 (show op 0 2554 = some (.lcmp, 1) by decide +kernel) rfl ?_
      by_cases hc19 : (if v10 < (s13 726 (0 : Int).toNat) then 1 else if (s13 726 (0 : Int).toNat) = v10 then 0 else -1) = 0
      · rw [if_pos hc19] at h
        refine g_ifT 2560 (show op 0 2555 = some (.ifCond .eq 5, 3) by decide +kernel) rfl (decide_eq_true hc19) ?_
        exact h
      · rw [if_neg hc19] at h
        refine g_ifF 2558 2560 (show op 0 2555 = some (.ifCond .eq 5, 3) by decide +kernel) rfl rfl (decide_eq_false hc19) ?_
        refine g_iconst 2559 (show op 0 2558 = some (.iconst 0, 1) by decide +kernel) rfl rfl ?_
        exact (g_zret (show op 0 2559 = some (.ireturn, 1) by decide +kernel) (by decide +kernel) (by decide) h)
    · rw [if_neg hc18] at h
      refine g_ifT 2560 (show op 0 2545 = some (.ifCond .ne 15, 3) by decide +kernel) rfl (decide_eq_true hc18) ?_
      exact h
  · rw [if_neg hc17] at h
    refine g_icmpF 2541 2543 (show op 0 2538 = some (.if_icmp .eq 5, 3) by decide +kernel) rfl rfl (decide_eq_false hc17) ?_
    refine g_iconst 2542 (show op 0 2541 = some (.iconst 0, 1) by decide +kernel) rfl rfl ?_
    exact (g_zret (show op 0 2542 = some (.ireturn, 1) by decide +kernel) (by decide +kernel) (by decide) h)
theorem b0_2563 {x4 : Int} {d5 : Option AV} {d6 : Option AV} {k : Nat} {n : Nat} {σ : Sg} {o : Rs} (h : (-2147483648 ≤ (x4 + 1) ∧ (x4 + 1) ≤ 2147483647) ∧ (0 ≤ (x4 + 1) ∧ (x4 + 1) < σ (SCR + 1) 0) ∧ ((k + 2) ≤ 601024 ∧ (n + 12) ≤ 7293034) ∧ (∃ (v4 : Int) (s3 : Sg), Dd 422 [(.inr (.inr (some 0))), (.inl (σ SCR ((x4 + 1)).toNat)), (.inr (.inr (some 726)))] σ (.inl (some (.inl v4)), s3) ∧ (-2147483648 ≤ (x4 + 1) ∧ (x4 + 1) ≤ 2147483647) ∧ (0 ≤ (x4 + 1) ∧ (x4 + 1) < s3 (SCR + 1) 0) ∧ ((k + 2) ≤ 601024 ∧ (n + 12) ≤ 7293034) ∧ (∃ (v10 : Int) (s9 : Sg), Dd 349 [(.inr (.inr (some 682))), (.inl (s3 SCR ((x4 + 1)).toNat))] s3 (.inl (some (.inl v10)), s9) ∧ ((k + 2) ≤ 601024 ∧ (n + 12) ≤ 7293034) ∧ (∃ (v14 : Int) (s13 : Sg), Dd 244 [(.inr (.inr (some 682)))] s9 (.inl (some (.inl v14)), s13) ∧ (if v14 = v4 then (if v4 = 0 then (if (if v10 < (s13 726 (0 : Int).toNat) then 1 else if (s13 726 (0 : Int).toNat) = v10 then 0 else -1) = 0 then C0_2616 x4 (some (.inl v4)) (some (.inl v10)) (k + 2) (n + 12) s13 o else o = (.inl (some (.inl 0)), s13)) else C0_2616 x4 (some (.inl v4)) (some (.inl v10)) (k + 2) (n + 12) s13 o) else o = (.inl (some (.inl 0)), s13)))))) : C0_2563 x4 d5 d6 k n σ o := by
  show Gd 0 2563 [(some (.inr (.inr (some SCR)))), (some (.inr (.inr (some 0)))), (some (.inr (.inr (some 682)))), (some (.inr (.inr (some 726)))), (some (.inl x4)), d5, d6] [] σ k n o
  refine g_aload_n 2564 (show op 0 2563 = some (.aload_n 1, 1) by decide +kernel) rfl rfl ?_
  refine g_aload_n 2565 (show op 0 2564 = some (.aload_n 0, 1) by decide +kernel) rfl rfl ?_
  refine g_iload 2567 (show op 0 2565 = some (.iload 4, 2) by decide +kernel) rfl rfl ?_
  refine g_iconst 2568 (show op 0 2567 = some (.iconst 1, 1) by decide +kernel) rfl rfl ?_
  obtain ⟨g1, h⟩ := h
  refine g_iadd 2569 (show op 0 2568 = some (.iadd, 1) by decide +kernel) rfl g1 ?_
  obtain ⟨g2, h⟩ := h
  refine g_scr 2570 (show op 0 2569 = some (.iaload, 1) by decide +kernel) rfl g2 ?_
  refine g_aload_n 2571 (show op 0 2570 = some (.aload_n 3, 1) by decide +kernel) rfl rfl ?_
  obtain ⟨g6, h⟩ := h
  obtain ⟨v4, s3, hD5, h⟩ := h
  refine g_call 2574 [(.inl v4)] (show op 0 2571 = some (.invokestatic 301, 3) by decide +kernel) (call_stL (c := 2) (s := 12) (nj := 3) (j := 422) (t := []) (as := [(.inr (.inr (some 0))), (.inl (σ SCR ((x4 + 1)).toNat)), (.inr (.inr (some 726)))]) (by decide +kernel) rfl (by decide +kernel) g6 rfl rfl rfl rfl rfl) hD5 rfl ?_
  refine g_istore 2576 [(some (.inr (.inr (some SCR)))), (some (.inr (.inr (some 0)))), (some (.inr (.inr (some 682)))), (some (.inr (.inr (some 726)))), (some (.inl x4)), (some (.inl v4)), d6] (show op 0 2574 = some (.istore 5, 2) by decide +kernel) rfl rfl rfl ?_
  refine g_aload_n 2577 (show op 0 2576 = some (.aload_n 2, 1) by decide +kernel) rfl rfl ?_
  refine g_aload_n 2578 (show op 0 2577 = some (.aload_n 0, 1) by decide +kernel) rfl rfl ?_
  refine g_iload 2580 (show op 0 2578 = some (.iload 4, 2) by decide +kernel) rfl rfl ?_
  refine g_iconst 2581 (show op 0 2580 = some (.iconst 1, 1) by decide +kernel) rfl rfl ?_
  obtain ⟨g7, h⟩ := h
  refine g_iadd 2582 (show op 0 2581 = some (.iadd, 1) by decide +kernel) rfl g7 ?_
  obtain ⟨g8, h⟩ := h
  refine g_scr 2583 (show op 0 2582 = some (.iaload, 1) by decide +kernel) rfl g8 ?_
  obtain ⟨g12, h⟩ := h
  obtain ⟨v10, s9, hD11, h⟩ := h
  refine g_call 2586 [(.inl v10)] (show op 0 2583 = some (.invokevirtual 303, 3) by decide +kernel) (call_viL (c := 0) (s := 0) (nj := 2) (j := 349) (k9 := 21) (t := []) (as := [(.inr (.inr (some 682))), (.inl (s3 SCR ((x4 + 1)).toNat))]) (by decide +kernel) rfl (by decide +kernel) g12 rfl rfl rfl rfl rfl rfl (by decide +kernel) (by decide +kernel)) hD11 rfl ?_
  refine g_istore 2588 [(some (.inr (.inr (some SCR)))), (some (.inr (.inr (some 0)))), (some (.inr (.inr (some 682)))), (some (.inr (.inr (some 726)))), (some (.inl x4)), (some (.inl v4)), (some (.inl v10))] (show op 0 2586 = some (.istore 6, 2) by decide +kernel) rfl rfl rfl ?_
  refine g_aload_n 2589 (show op 0 2588 = some (.aload_n 2, 1) by decide +kernel) rfl rfl ?_
  obtain ⟨g16, h⟩ := h
  obtain ⟨v14, s13, hD15, h⟩ := h
  refine g_call 2592 [(.inl v14)] (show op 0 2589 = some (.invokevirtual 194, 3) by decide +kernel) (call_viL (c := 0) (s := 0) (nj := 1) (j := 244) (k9 := 21) (t := []) (as := [(.inr (.inr (some 682)))]) (by decide +kernel) rfl (by decide +kernel) g16 rfl rfl rfl rfl rfl rfl (by decide +kernel) (by decide +kernel)) hD15 rfl ?_
  refine g_iload 2594 (show op 0 2592 = some (.iload 5, 2) by decide +kernel) rfl rfl ?_
  by_cases hc17 : v14 = v4
  · rw [if_pos hc17] at h
    refine g_icmpT 2599 (show op 0 2594 = some (.if_icmp .eq 5, 3) by decide +kernel) rfl (decide_eq_true hc17) ?_
    refine g_iload 2601 (show op 0 2599 = some (.iload 5, 2) by decide +kernel) rfl rfl ?_
    by_cases hc18 : v4 = 0
    · rw [if_pos hc18] at h
      refine g_ifF 2604 2616 (show op 0 2601 = some (.ifCond .ne 15, 3) by decide +kernel) rfl rfl (decide_eq_false (fun h9 => h9 hc18)) ?_
      refine g_aload_n 2605 (show op 0 2604 = some (.aload_n 3, 1) by decide +kernel) rfl rfl ?_
      refine g_iconst 2606 (show op 0 2605 = some (.iconst 0, 1) by decide +kernel) rfl rfl ?_
      refine g_laload 2607 1 (show op 0 2606 = some (.laload, 1) by decide +kernel) rfl (by decide +kernel) (by decide) ?_
      refine g_iload 2609 (show op 0 2607 = some (.iload 6, 2) by decide +kernel) rfl rfl ?_
      refine g_i2l 2610 (show op 0 2609 = some (.i2l, 1) by decide +kernel) rfl ?_
      refine g_lcmp 2611 (show op 0 2610 = some (.lcmp, 1) by decide +kernel) rfl ?_
      by_cases hc19 : (if v10 < (s13 726 (0 : Int).toNat) then 1 else if (s13 726 (0 : Int).toNat) = v10 then 0 else -1) = 0
      · rw [if_pos hc19] at h
        refine g_ifT 2616 (show op 0 2611 = some (.ifCond .eq 5, 3) by decide +kernel) rfl (decide_eq_true hc19) ?_
        exact h
      · rw [if_neg hc19] at h
        refine g_ifF 2614 2616 (show op 0 2611 = some (.ifCond .eq 5, 3) by decide +kernel) rfl rfl (decide_eq_false hc19) ?_
        refine g_iconst 2615 (show op 0 2614 = some (.iconst 0, 1) by decide +kernel) rfl rfl ?_
        exact (g_zret (show op 0 2615 = some (.ireturn, 1) by decide +kernel) (by decide +kernel) (by decide) h)
    · rw [if_neg hc18] at h
      refine g_ifT 2616 (show op 0 2601 = some (.ifCond .ne 15, 3) by decide +kernel) rfl (decide_eq_true hc18) ?_
      exact h
  · rw [if_neg hc17] at h
    refine g_icmpF 2597 2599 (show op 0 2594 = some (.if_icmp .eq 5, 3) by decide +kernel) rfl rfl (decide_eq_false hc17) ?_
    refine g_iconst 2598 (show op 0 2597 = some (.iconst 0, 1) by decide +kernel) rfl rfl ?_
    exact (g_zret (show op 0 2598 = some (.ireturn, 1) by decide +kernel) (by decide +kernel) (by decide) h)
theorem b0_2619 {x4 : Int} {d5 : Option AV} {d6 : Option AV} {k : Nat} {n : Nat} {σ : Sg} {o : Rs} (h : (-2147483648 ≤ (x4 + 1) ∧ (x4 + 1) ≤ 2147483647) ∧ (0 ≤ (x4 + 1) ∧ (x4 + 1) < σ (SCR + 1) 0) ∧ (-2147483648 ≤ (x4 + 2) ∧ (x4 + 2) ≤ 2147483647) ∧ (0 ≤ (x4 + 2) ∧ (x4 + 2) < σ (SCR + 1) 0) ∧ (-2147483648 ≤ (x4 + 3) ∧ (x4 + 3) ≤ 2147483647) ∧ (0 ≤ (x4 + 3) ∧ (x4 + 3) < σ (SCR + 1) 0) ∧ ((k + 4) ≤ 601024 ∧ (n + 24) ≤ 7293034) ∧ (∃ (v8 : Int) (s7 : Sg), Dd 423 [(.inr (.inr (some 0))), (.inl (σ SCR ((x4 + 1)).toNat)), (.inl (σ SCR ((x4 + 2)).toNat)), (.inl (σ SCR ((x4 + 3)).toNat)), (.inr (.inr (some 726)))] σ (.inl (some (.inl v8)), s7) ∧ (-2147483648 ≤ (x4 + 1) ∧ (x4 + 1) ≤ 2147483647) ∧ (0 ≤ (x4 + 1) ∧ (x4 + 1) < s7 (SCR + 1) 0) ∧ (-2147483648 ≤ (x4 + 2) ∧ (x4 + 2) ≤ 2147483647) ∧ (0 ≤ (x4 + 2) ∧ (x4 + 2) < s7 (SCR + 1) 0) ∧ (-2147483648 ≤ (x4 + 3) ∧ (x4 + 3) ≤ 2147483647) ∧ (0 ≤ (x4 + 3) ∧ (x4 + 3) < s7 (SCR + 1) 0) ∧ ((k + 4) ≤ 601024 ∧ (n + 24) ≤ 7293034) ∧ (∃ (v18 : Int) (s17 : Sg), Dd 351 [(.inr (.inr (some 682))), (.inl (s7 SCR ((x4 + 1)).toNat)), (.inl (s7 SCR ((x4 + 2)).toNat)), (.inl (s7 SCR ((x4 + 3)).toNat))] s7 (.inl (some (.inl v18)), s17) ∧ ((k + 4) ≤ 601024 ∧ (n + 24) ≤ 7293034) ∧ (∃ (v22 : Int) (s21 : Sg), Dd 244 [(.inr (.inr (some 682)))] s17 (.inl (some (.inl v22)), s21) ∧ (if v22 = v8 then (if v8 = 0 then (if (if v18 < (s21 726 (0 : Int).toNat) then 1 else if (s21 726 (0 : Int).toNat) = v18 then 0 else -1) = 0 then C0_2696 x4 (some (.inl v8)) (some (.inl v18)) (k + 4) (n + 24) s21 o else o = (.inl (some (.inl 0)), s21)) else C0_2696 x4 (some (.inl v8)) (some (.inl v18)) (k + 4) (n + 24) s21 o) else o = (.inl (some (.inl 0)), s21)))))) : C0_2619 x4 d5 d6 k n σ o := by
  show Gd 0 2619 [(some (.inr (.inr (some SCR)))), (some (.inr (.inr (some 0)))), (some (.inr (.inr (some 682)))), (some (.inr (.inr (some 726)))), (some (.inl x4)), d5, d6] [] σ k n o
  refine g_aload_n 2620 (show op 0 2619 = some (.aload_n 1, 1) by decide +kernel) rfl rfl ?_
  refine g_aload_n 2621 (show op 0 2620 = some (.aload_n 0, 1) by decide +kernel) rfl rfl ?_
  refine g_iload 2623 (show op 0 2621 = some (.iload 4, 2) by decide +kernel) rfl rfl ?_
  refine g_iconst 2624 (show op 0 2623 = some (.iconst 1, 1) by decide +kernel) rfl rfl ?_
  obtain ⟨g1, h⟩ := h
  refine g_iadd 2625 (show op 0 2624 = some (.iadd, 1) by decide +kernel) rfl g1 ?_
  obtain ⟨g2, h⟩ := h
  refine g_scr 2626 (show op 0 2625 = some (.iaload, 1) by decide +kernel) rfl g2 ?_
  refine g_aload_n 2627 (show op 0 2626 = some (.aload_n 0, 1) by decide +kernel) rfl rfl ?_
  refine g_iload 2629 (show op 0 2627 = some (.iload 4, 2) by decide +kernel) rfl rfl ?_
  refine g_iconst 2630 (show op 0 2629 = some (.iconst 2, 1) by decide +kernel) rfl rfl ?_
  obtain ⟨g3, h⟩ := h
  refine g_iadd 2631 (show op 0 2630 = some (.iadd, 1) by decide +kernel) rfl g3 ?_
  obtain ⟨g4, h⟩ := h
  refine g_scr 2632 (show op 0 2631 = some (.iaload, 1) by decide +kernel) rfl g4 ?_
  refine g_aload_n 2633 (show op 0 2632 = some (.aload_n 0, 1) by decide +kernel) rfl rfl ?_
  refine g_iload 2635 (show op 0 2633 = some (.iload 4, 2) by decide +kernel) rfl rfl ?_
  refine g_iconst 2636 (show op 0 2635 = some (.iconst 3, 1) by decide +kernel) rfl rfl ?_
  obtain ⟨g5, h⟩ := h
  refine g_iadd 2637 (show op 0 2636 = some (.iadd, 1) by decide +kernel) rfl g5 ?_
  obtain ⟨g6, h⟩ := h
  refine g_scr 2638 (show op 0 2637 = some (.iaload, 1) by decide +kernel) rfl g6 ?_
  refine g_aload_n 2639 (show op 0 2638 = some (.aload_n 3, 1) by decide +kernel) rfl rfl ?_
  obtain ⟨g10, h⟩ := h
  obtain ⟨v8, s7, hD9, h⟩ := h
  refine g_call 2642 [(.inl v8)] (show op 0 2639 = some (.invokestatic 304, 3) by decide +kernel) (call_stL (c := 4) (s := 24) (nj := 5) (j := 423) (t := []) (as := [(.inr (.inr (some 0))), (.inl (σ SCR ((x4 + 1)).toNat)), (.inl (σ SCR ((x4 + 2)).toNat)), (.inl (σ SCR ((x4 + 3)).toNat)), (.inr (.inr (some 726)))]) (by decide +kernel) rfl (by decide +kernel) g10 rfl rfl rfl rfl rfl) hD9 rfl ?_
  refine g_istore 2644 [(some (.inr (.inr (some SCR)))), (some (.inr (.inr (some 0)))), (some (.inr (.inr (some 682)))), (some (.inr (.inr (some 726)))), (some (.inl x4)), (some (.inl v8)), d6] (show op 0 2642 = some (.istore 5, 2) by decide +kernel) rfl rfl rfl ?_
  refine g_aload_n 2645 (show op 0 2644 = some (.aload_n 2, 1) by decide +kernel) rfl rfl ?_
  refine g_aload_n 2646 (show op 0 2645 = some (.aload_n 0, 1) by decide +kernel) rfl rfl ?_
  refine g_iload 2648 (show op 0 2646 = some (.iload 4, 2) by decide +kernel) rfl rfl ?_
  refine g_iconst 2649 (show op 0 2648 = some (.iconst 1, 1) by decide +kernel) rfl rfl ?_
  obtain ⟨g11, h⟩ := h
  refine g_iadd 2650 (show op 0 2649 = some (.iadd, 1) by decide +kernel) rfl g11 ?_
  obtain ⟨g12, h⟩ := h
  refine g_scr 2651 (show op 0 2650 = some (.iaload, 1) by decide +kernel) rfl g12 ?_
  refine g_aload_n 2652 (show op 0 2651 = some (.aload_n 0, 1) by decide +kernel) rfl rfl ?_
  refine g_iload 2654 (show op 0 2652 = some (.iload 4, 2) by decide +kernel) rfl rfl ?_
  refine g_iconst 2655 (show op 0 2654 = some (.iconst 2, 1) by decide +kernel) rfl rfl ?_
  obtain ⟨g13, h⟩ := h
  refine g_iadd 2656 (show op 0 2655 = some (.iadd, 1) by decide +kernel) rfl g13 ?_
  obtain ⟨g14, h⟩ := h
  refine g_scr 2657 (show op 0 2656 = some (.iaload, 1) by decide +kernel) rfl g14 ?_
  refine g_aload_n 2658 (show op 0 2657 = some (.aload_n 0, 1) by decide +kernel) rfl rfl ?_
  refine g_iload 2660 (show op 0 2658 = some (.iload 4, 2) by decide +kernel) rfl rfl ?_
  refine g_iconst 2661 (show op 0 2660 = some (.iconst 3, 1) by decide +kernel) rfl rfl ?_
  obtain ⟨g15, h⟩ := h
  refine g_iadd 2662 (show op 0 2661 = some (.iadd, 1) by decide +kernel) rfl g15 ?_
  obtain ⟨g16, h⟩ := h
  refine g_scr 2663 (show op 0 2662 = some (.iaload, 1) by decide +kernel) rfl g16 ?_
  obtain ⟨g20, h⟩ := h
  obtain ⟨v18, s17, hD19, h⟩ := h
  refine g_call 2666 [(.inl v18)] (show op 0 2663 = some (.invokevirtual 306, 3) by decide +kernel) (call_viL (c := 0) (s := 0) (nj := 4) (j := 351) (k9 := 21) (t := []) (as := [(.inr (.inr (some 682))), (.inl (s7 SCR ((x4 + 1)).toNat)), (.inl (s7 SCR ((x4 + 2)).toNat)), (.inl (s7 SCR ((x4 + 3)).toNat))]) (by decide +kernel) rfl (by decide +kernel) g20 rfl rfl rfl rfl rfl rfl (by decide +kernel) (by decide +kernel)) hD19 rfl ?_
  refine g_istore 2668 [(some (.inr (.inr (some SCR)))), (some (.inr (.inr (some 0)))), (some (.inr (.inr (some 682)))), (some (.inr (.inr (some 726)))), (some (.inl x4)), (some (.inl v8)), (some (.inl v18))] (show op 0 2666 = some (.istore 6, 2) by decide +kernel) rfl rfl rfl ?_
  refine g_aload_n 2669 (show op 0 2668 = some (.aload_n 2, 1) by decide +kernel) rfl rfl ?_
  obtain ⟨g24, h⟩ := h
  obtain ⟨v22, s21, hD23, h⟩ := h
  refine g_call 2672 [(.inl v22)] (show op 0 2669 = some (.invokevirtual 194, 3) by decide +kernel) (call_viL (c := 0) (s := 0) (nj := 1) (j := 244) (k9 := 21) (t := []) (as := [(.inr (.inr (some 682)))]) (by decide +kernel) rfl (by decide +kernel) g24 rfl rfl rfl rfl rfl rfl (by decide +kernel) (by decide +kernel)) hD23 rfl ?_
  refine g_iload 2674 (show op 0 2672 = some (.iload 5, 2) by decide +kernel) rfl rfl ?_
  by_cases hc25 : v22 = v8
  · rw [if_pos hc25] at h
    refine g_icmpT 2679 (show op 0 2674 = some (.if_icmp .eq 5, 3) by decide +kernel) rfl (decide_eq_true hc25) ?_
    refine g_iload 2681 (show op 0 2679 = some (.iload 5, 2) by decide +kernel) rfl rfl ?_
    by_cases hc26 : v8 = 0
    · rw [if_pos hc26] at h
      refine g_ifF 2684 2696 (show op 0 2681 = some (.ifCond .ne 15, 3) by decide +kernel) rfl rfl (decide_eq_false (fun h9 => h9 hc26)) ?_
      refine g_aload_n 2685 (show op 0 2684 = some (.aload_n 3, 1) by decide +kernel) rfl rfl ?_
      refine g_iconst 2686 (show op 0 2685 = some (.iconst 0, 1) by decide +kernel) rfl rfl ?_
      refine g_laload 2687 1 (show op 0 2686 = some (.laload, 1) by decide +kernel) rfl (by decide +kernel) (by decide) ?_
      refine g_iload 2689 (show op 0 2687 = some (.iload 6, 2) by decide +kernel) rfl rfl ?_
      refine g_i2l 2690 (show op 0 2689 = some (.i2l, 1) by decide +kernel) rfl ?_
      refine g_lcmp 2691 (show op 0 2690 = some (.lcmp, 1) by decide +kernel) rfl ?_
      by_cases hc27 : (if v18 < (s21 726 (0 : Int).toNat) then 1 else if (s21 726 (0 : Int).toNat) = v18 then 0 else -1) = 0
      · rw [if_pos hc27] at h
        refine g_ifT 2696 (show op 0 2691 = some (.ifCond .eq 5, 3) by decide +kernel) rfl (decide_eq_true hc27) ?_
        exact h
      · rw [if_neg hc27] at h
        refine g_ifF 2694 2696 (show op 0 2691 = some (.ifCond .eq 5, 3) by decide +kernel) rfl rfl (decide_eq_false hc27) ?_
        refine g_iconst 2695 (show op 0 2694 = some (.iconst 0, 1) by decide +kernel) rfl rfl ?_
        exact (g_zret (show op 0 2695 = some (.ireturn, 1) by decide +kernel) (by decide +kernel) (by decide) h)
    · rw [if_neg hc26] at h
      refine g_ifT 2696 (show op 0 2681 = some (.ifCond .ne 15, 3) by decide +kernel) rfl (decide_eq_true hc26) ?_
      exact h
  · rw [if_neg hc25] at h
    refine g_icmpF 2677 2679 (show op 0 2674 = some (.if_icmp .eq 5, 3) by decide +kernel) rfl rfl (decide_eq_false hc25) ?_
    refine g_iconst 2678 (show op 0 2677 = some (.iconst 0, 1) by decide +kernel) rfl rfl ?_
    exact (g_zret (show op 0 2678 = some (.ireturn, 1) by decide +kernel) (by decide +kernel) (by decide) h)
theorem b0_2699 {x4 : Int} {d5 : Option AV} {d6 : Option AV} {k : Nat} {n : Nat} {σ : Sg} {o : Rs} (h : (-2147483648 ≤ (x4 + 1) ∧ (x4 + 1) ≤ 2147483647) ∧ (0 ≤ (x4 + 1) ∧ (x4 + 1) < σ (SCR + 1) 0) ∧ (-2147483648 ≤ (x4 + 2) ∧ (x4 + 2) ≤ 2147483647) ∧ (0 ≤ (x4 + 2) ∧ (x4 + 2) < σ (SCR + 1) 0) ∧ ((k + 4) ≤ 601024 ∧ (n + 24) ≤ 7293034) ∧ (∃ (v6 : Int) (s5 : Sg), Dd 424 [(.inr (.inr (some 0))), (.inl (σ SCR ((x4 + 1)).toNat)), (.inl (σ SCR ((x4 + 2)).toNat)), (.inr (.inr (some 726)))] σ (.inl (some (.inl v6)), s5) ∧ (-2147483648 ≤ (x4 + 1) ∧ (x4 + 1) ≤ 2147483647) ∧ (0 ≤ (x4 + 1) ∧ (x4 + 1) < s5 (SCR + 1) 0) ∧ (-2147483648 ≤ (x4 + 2) ∧ (x4 + 2) ≤ 2147483647) ∧ (0 ≤ (x4 + 2) ∧ (x4 + 2) < s5 (SCR + 1) 0) ∧ ((k + 4) ≤ 601024 ∧ (n + 24) ≤ 7293034) ∧ (∃ (v14 : Int) (s13 : Sg), Dd 352 [(.inr (.inr (some 682))), (.inl (s5 SCR ((x4 + 1)).toNat)), (.inl (s5 SCR ((x4 + 2)).toNat))] s5 (.inl (some (.inl v14)), s13) ∧ ((k + 4) ≤ 601024 ∧ (n + 24) ≤ 7293034) ∧ (∃ (v18 : Int) (s17 : Sg), Dd 244 [(.inr (.inr (some 682)))] s13 (.inl (some (.inl v18)), s17) ∧ (if v18 = v6 then (if v6 = 0 then (if (if v14 < (s17 726 (0 : Int).toNat) then 1 else if (s17 726 (0 : Int).toNat) = v14 then 0 else -1) = 0 then C0_2764 x4 (some (.inl v6)) (some (.inl v14)) (k + 4) (n + 24) s17 o else o = (.inl (some (.inl 0)), s17)) else C0_2764 x4 (some (.inl v6)) (some (.inl v14)) (k + 4) (n + 24) s17 o) else o = (.inl (some (.inl 0)), s17)))))) : C0_2699 x4 d5 d6 k n σ o := by
  show Gd 0 2699 [(some (.inr (.inr (some SCR)))), (some (.inr (.inr (some 0)))), (some (.inr (.inr (some 682)))), (some (.inr (.inr (some 726)))), (some (.inl x4)), d5, d6] [] σ k n o
  refine g_aload_n 2700 (show op 0 2699 = some (.aload_n 1, 1) by decide +kernel) rfl rfl ?_
  refine g_aload_n 2701 (show op 0 2700 = some (.aload_n 0, 1) by decide +kernel) rfl rfl ?_
  refine g_iload 2703 (show op 0 2701 = some (.iload 4, 2) by decide +kernel) rfl rfl ?_
  refine g_iconst 2704 (show op 0 2703 = some (.iconst 1, 1) by decide +kernel) rfl rfl ?_
  obtain ⟨g1, h⟩ := h
  refine g_iadd 2705 (show op 0 2704 = some (.iadd, 1) by decide +kernel) rfl g1 ?_
  obtain ⟨g2, h⟩ := h
  refine g_scr 2706 (show op 0 2705 = some (.iaload, 1) by decide +kernel) rfl g2 ?_
  refine g_aload_n 2707 (show op 0 2706 = some (.aload_n 0, 1) by decide +kernel) rfl rfl ?_
  refine g_iload 2709 (show op 0 2707 = some (.iload 4, 2) by decide +kernel) rfl rfl ?_
  refine g_iconst 2710 (show op 0 2709 = some (.iconst 2, 1) by decide +kernel) rfl rfl ?_
  obtain ⟨g3, h⟩ := h
  refine g_iadd 2711 (show op 0 2710 = some (.iadd, 1) by decide +kernel) rfl g3 ?_
  obtain ⟨g4, h⟩ := h
  refine g_scr 2712 (show op 0 2711 = some (.iaload, 1) by decide +kernel) rfl g4 ?_
  refine g_aload_n 2713 (show op 0 2712 = some (.aload_n 3, 1) by decide +kernel) rfl rfl ?_
  obtain ⟨g8, h⟩ := h
  obtain ⟨v6, s5, hD7, h⟩ := h
  refine g_call 2716 [(.inl v6)] (show op 0 2713 = some (.invokestatic 307, 3) by decide +kernel) (call_stL (c := 4) (s := 24) (nj := 4) (j := 424) (t := []) (as := [(.inr (.inr (some 0))), (.inl (σ SCR ((x4 + 1)).toNat)), (.inl (σ SCR ((x4 + 2)).toNat)), (.inr (.inr (some 726)))]) (by decide +kernel) rfl (by decide +kernel) g8 rfl rfl rfl rfl rfl) hD7 rfl ?_
  refine g_istore 2718 [(some (.inr (.inr (some SCR)))), (some (.inr (.inr (some 0)))), (some (.inr (.inr (some 682)))), (some (.inr (.inr (some 726)))), (some (.inl x4)), (some (.inl v6)), d6] (show op 0 2716 = some (.istore 5, 2) by decide +kernel) rfl rfl rfl ?_
  refine g_aload_n 2719 (show op 0 2718 = some (.aload_n 2, 1) by decide +kernel) rfl rfl ?_
  refine g_aload_n 2720 (show op 0 2719 = some (.aload_n 0, 1) by decide +kernel) rfl rfl ?_
  refine g_iload 2722 (show op 0 2720 = some (.iload 4, 2) by decide +kernel) rfl rfl ?_
  refine g_iconst 2723 (show op 0 2722 = some (.iconst 1, 1) by decide +kernel) rfl rfl ?_
  obtain ⟨g9, h⟩ := h
  refine g_iadd 2724 (show op 0 2723 = some (.iadd, 1) by decide +kernel) rfl g9 ?_
  obtain ⟨g10, h⟩ := h
  refine g_scr 2725 (show op 0 2724 = some (.iaload, 1) by decide +kernel) rfl g10 ?_
  refine g_aload_n 2726 (show op 0 2725 = some (.aload_n 0, 1) by decide +kernel) rfl rfl ?_
  refine g_iload 2728 (show op 0 2726 = some (.iload 4, 2) by decide +kernel) rfl rfl ?_
  refine g_iconst 2729 (show op 0 2728 = some (.iconst 2, 1) by decide +kernel) rfl rfl ?_
  obtain ⟨g11, h⟩ := h
  refine g_iadd 2730 (show op 0 2729 = some (.iadd, 1) by decide +kernel) rfl g11 ?_
  obtain ⟨g12, h⟩ := h
  refine g_scr 2731 (show op 0 2730 = some (.iaload, 1) by decide +kernel) rfl g12 ?_
  obtain ⟨g16, h⟩ := h
  obtain ⟨v14, s13, hD15, h⟩ := h
  refine g_call 2734 [(.inl v14)] (show op 0 2731 = some (.invokevirtual 309, 3) by decide +kernel) (call_viL (c := 0) (s := 0) (nj := 3) (j := 352) (k9 := 21) (t := []) (as := [(.inr (.inr (some 682))), (.inl (s5 SCR ((x4 + 1)).toNat)), (.inl (s5 SCR ((x4 + 2)).toNat))]) (by decide +kernel) rfl (by decide +kernel) g16 rfl rfl rfl rfl rfl rfl (by decide +kernel) (by decide +kernel)) hD15 rfl ?_
  refine g_istore 2736 [(some (.inr (.inr (some SCR)))), (some (.inr (.inr (some 0)))), (some (.inr (.inr (some 682)))), (some (.inr (.inr (some 726)))), (some (.inl x4)), (some (.inl v6)), (some (.inl v14))] (show op 0 2734 = some (.istore 6, 2) by decide +kernel) rfl rfl rfl ?_
  refine g_aload_n 2737 (show op 0 2736 = some (.aload_n 2, 1) by decide +kernel) rfl rfl ?_
  obtain ⟨g20, h⟩ := h
  obtain ⟨v18, s17, hD19, h⟩ := h
  refine g_call 2740 [(.inl v18)] (show op 0 2737 = some (.invokevirtual 194, 3) by decide +kernel) (call_viL (c := 0) (s := 0) (nj := 1) (j := 244) (k9 := 21) (t := []) (as := [(.inr (.inr (some 682)))]) (by decide +kernel) rfl (by decide +kernel) g20 rfl rfl rfl rfl rfl rfl (by decide +kernel) (by decide +kernel)) hD19 rfl ?_
  refine g_iload 2742 (show op 0 2740 = some (.iload 5, 2) by decide +kernel) rfl rfl ?_
  by_cases hc21 : v18 = v6
  · rw [if_pos hc21] at h
    refine g_icmpT 2747 (show op 0 2742 = some (.if_icmp .eq 5, 3) by decide +kernel) rfl (decide_eq_true hc21) ?_
    refine g_iload 2749 (show op 0 2747 = some (.iload 5, 2) by decide +kernel) rfl rfl ?_
    by_cases hc22 : v6 = 0
    · rw [if_pos hc22] at h
      refine g_ifF 2752 2764 (show op 0 2749 = some (.ifCond .ne 15, 3) by decide +kernel) rfl rfl (decide_eq_false (fun h9 => h9 hc22)) ?_
      refine g_aload_n 2753 (show op 0 2752 = some (.aload_n 3, 1) by decide +kernel) rfl rfl ?_
      refine g_iconst 2754 (show op 0 2753 = some (.iconst 0, 1) by decide +kernel) rfl rfl ?_
      refine g_laload 2755 1 (show op 0 2754 = some (.laload, 1) by decide +kernel) rfl (by decide +kernel) (by decide) ?_
      refine g_iload 2757 (show op 0 2755 = some (.iload 6, 2) by decide +kernel) rfl rfl ?_
      refine g_i2l 2758 (show op 0 2757 = some (.i2l, 1) by decide +kernel) rfl ?_
      refine g_lcmp 2759 (show op 0 2758 = some (.lcmp, 1) by decide +kernel) rfl ?_
      by_cases hc23 : (if v14 < (s17 726 (0 : Int).toNat) then 1 else if (s17 726 (0 : Int).toNat) = v14 then 0 else -1) = 0
      · rw [if_pos hc23] at h
        refine g_ifT 2764 (show op 0 2759 = some (.ifCond .eq 5, 3) by decide +kernel) rfl (decide_eq_true hc23) ?_
        exact h
      · rw [if_neg hc23] at h
        refine g_ifF 2762 2764 (show op 0 2759 = some (.ifCond .eq 5, 3) by decide +kernel) rfl rfl (decide_eq_false hc23) ?_
        refine g_iconst 2763 (show op 0 2762 = some (.iconst 0, 1) by decide +kernel) rfl rfl ?_
        exact (g_zret (show op 0 2763 = some (.ireturn, 1) by decide +kernel) (by decide +kernel) (by decide) h)
    · rw [if_neg hc22] at h
      refine g_ifT 2764 (show op 0 2749 = some (.ifCond .ne 15, 3) by decide +kernel) rfl (decide_eq_true hc22) ?_
      exact h
  · rw [if_neg hc21] at h
    refine g_icmpF 2745 2747 (show op 0 2742 = some (.if_icmp .eq 5, 3) by decide +kernel) rfl rfl (decide_eq_false hc21) ?_
    refine g_iconst 2746 (show op 0 2745 = some (.iconst 0, 1) by decide +kernel) rfl rfl ?_
    exact (g_zret (show op 0 2746 = some (.ireturn, 1) by decide +kernel) (by decide +kernel) (by decide) h)
theorem b0_2767 {x4 : Int} {d5 : Option AV} {d6 : Option AV} {k : Nat} {n : Nat} {σ : Sg} {o : Rs} (h : (k ≤ 601024 ∧ n ≤ 7293034) ∧ (∃ (v2 : Int) (s1 : Sg), Dd 208 [(.inr (.inr (some 0)))] σ (.inl (some (.inl v2)), s1) ∧ (k ≤ 601024 ∧ n ≤ 7293034) ∧ (∃ (v6 : Int) (s5 : Sg), Dd 353 [(.inr (.inr (some 682)))] s1 (.inl (some (.inl v6)), s5) ∧ (if v2 = v6 then C0_3927 x4 d5 d6 k n s5 o else o = (.inl (some (.inl 0)), s5))))) : C0_2767 x4 d5 d6 k n σ o := by
  show Gd 0 2767 [(some (.inr (.inr (some SCR)))), (some (.inr (.inr (some 0)))), (some (.inr (.inr (some 682)))), (some (.inr (.inr (some 726)))), (some (.inl x4)), d5, d6] [] σ k n o
  refine g_aload_n 2768 (show op 0 2767 = some (.aload_n 1, 1) by decide +kernel) rfl rfl ?_
  obtain ⟨g4, h⟩ := h
  obtain ⟨v2, s1, hD3, h⟩ := h
  refine g_call 2771 [(.inl v2)] (show op 0 2768 = some (.invokevirtual 310, 3) by decide +kernel) (call_viL (c := 0) (s := 0) (nj := 1) (j := 208) (k9 := 20) (t := []) (as := [(.inr (.inr (some 0)))]) (by decide +kernel) rfl (by decide +kernel) g4 rfl rfl rfl rfl rfl rfl (by decide +kernel) (by decide +kernel)) hD3 rfl ?_
  refine g_aload_n 2772 (show op 0 2771 = some (.aload_n 2, 1) by decide +kernel) rfl rfl ?_
  obtain ⟨g8, h⟩ := h
  obtain ⟨v6, s5, hD7, h⟩ := h
  refine g_call 2775 [(.inl v6), (.inl v2)] (show op 0 2772 = some (.invokevirtual 313, 3) by decide +kernel) (call_viL (c := 0) (s := 0) (nj := 1) (j := 353) (k9 := 21) (t := [(.inl v2)]) (as := [(.inr (.inr (some 682)))]) (by decide +kernel) rfl (by decide +kernel) g8 rfl rfl rfl rfl rfl rfl (by decide +kernel) (by decide +kernel)) hD7 rfl ?_
  by_cases hc9 : v2 = v6
  · rw [if_pos hc9] at h
    refine g_icmpT 3927 (show op 0 2775 = some (.if_icmp .eq 1152, 3) by decide +kernel) rfl (decide_eq_true hc9) ?_
    exact h
  · rw [if_neg hc9] at h
    refine g_icmpF 2778 3927 (show op 0 2775 = some (.if_icmp .eq 1152, 3) by decide +kernel) rfl rfl (decide_eq_false hc9) ?_
    refine g_iconst 2779 (show op 0 2778 = some (.iconst 0, 1) by decide +kernel) rfl rfl ?_
    exact (g_zret (show op 0 2779 = some (.ireturn, 1) by decide +kernel) (by decide +kernel) (by decide) h)
theorem b0_2780 {x4 : Int} {d5 : Option AV} {d6 : Option AV} {k : Nat} {n : Nat} {σ : Sg} {o : Rs} (h : (-2147483648 ≤ (x4 + 1) ∧ (x4 + 1) ≤ 2147483647) ∧ (0 ≤ (x4 + 1) ∧ (x4 + 1) < σ (SCR + 1) 0) ∧ ((k + 1) ≤ 601024 ∧ (n + 6) ≤ 7293034) ∧ (∃ (v4 : Int) (s3 : Sg), Dd 425 [(.inr (.inr (some 0))), (.inl (σ SCR ((x4 + 1)).toNat)), (.inr (.inr (some 726)))] σ (.inl (some (.inl v4)), s3) ∧ (-2147483648 ≤ (x4 + 1) ∧ (x4 + 1) ≤ 2147483647) ∧ (0 ≤ (x4 + 1) ∧ (x4 + 1) < s3 (SCR + 1) 0) ∧ ((k + 1) ≤ 601024 ∧ (n + 6) ≤ 7293034) ∧ (∃ (v10 : Int) (s9 : Sg), Dd 354 [(.inr (.inr (some 682))), (.inl (s3 SCR ((x4 + 1)).toNat))] s3 (.inl (some (.inl v10)), s9) ∧ ((k + 1) ≤ 601024 ∧ (n + 6) ≤ 7293034) ∧ (∃ (v14 : Int) (s13 : Sg), Dd 244 [(.inr (.inr (some 682)))] s9 (.inl (some (.inl v14)), s13) ∧ (if v14 = v4 then (if v4 = 0 then (if (if v10 < (s13 726 (0 : Int).toNat) then 1 else if (s13 726 (0 : Int).toNat) = v10 then 0 else -1) = 0 then C0_2833 x4 (some (.inl v4)) (some (.inl v10)) (k + 1) (n + 6) s13 o else o = (.inl (some (.inl 0)), s13)) else C0_2833 x4 (some (.inl v4)) (some (.inl v10)) (k + 1) (n + 6) s13 o) else o = (.inl (some (.inl 0)), s13)))))) : C0_2780 x4 d5 d6 k n σ o := by
  show Gd 0 2780 [(some (.inr (.inr (some SCR)))), (some (.inr (.inr (some 0)))), (some (.inr (.inr (some 682)))), (some (.inr (.inr (some 726)))), (some (.inl x4)), d5, d6] [] σ k n o
  refine g_aload_n 2781 (show op 0 2780 = some (.aload_n 1, 1) by decide +kernel) rfl rfl ?_
  refine g_aload_n 2782 (show op 0 2781 = some (.aload_n 0, 1) by decide +kernel) rfl rfl ?_
  refine g_iload 2784 (show op 0 2782 = some (.iload 4, 2) by decide +kernel) rfl rfl ?_
  refine g_iconst 2785 (show op 0 2784 = some (.iconst 1, 1) by decide +kernel) rfl rfl ?_
  obtain ⟨g1, h⟩ := h
  refine g_iadd 2786 (show op 0 2785 = some (.iadd, 1) by decide +kernel) rfl g1 ?_
  obtain ⟨g2, h⟩ := h
  refine g_scr 2787 (show op 0 2786 = some (.iaload, 1) by decide +kernel) rfl g2 ?_
  refine g_aload_n 2788 (show op 0 2787 = some (.aload_n 3, 1) by decide +kernel) rfl rfl ?_
  obtain ⟨g6, h⟩ := h
  obtain ⟨v4, s3, hD5, h⟩ := h
  refine g_call 2791 [(.inl v4)] (show op 0 2788 = some (.invokestatic 314, 3) by decide +kernel) (call_stL (c := 1) (s := 6) (nj := 3) (j := 425) (t := []) (as := [(.inr (.inr (some 0))), (.inl (σ SCR ((x4 + 1)).toNat)), (.inr (.inr (some 726)))]) (by decide +kernel) rfl (by decide +kernel) g6 rfl rfl rfl rfl rfl) hD5 rfl ?_
  refine g_istore 2793 [(some (.inr (.inr (some SCR)))), (some (.inr (.inr (some 0)))), (some (.inr (.inr (some 682)))), (some (.inr (.inr (some 726)))), (some (.inl x4)), (some (.inl v4)), d6] (show op 0 2791 = some (.istore 5, 2) by decide +kernel) rfl rfl rfl ?_
  refine g_aload_n 2794 (show op 0 2793 = some (.aload_n 2, 1) by decide +kernel) rfl rfl ?_
  refine g_aload_n 2795 (show op 0 2794 = some (.aload_n 0, 1) by decide +kernel) rfl rfl ?_
  refine g_iload 2797 (show op 0 2795 = some (.iload 4, 2) by decide +kernel) rfl rfl ?_
  refine g_iconst 2798 (show op 0 2797 = some (.iconst 1, 1) by decide +kernel) rfl rfl ?_
  obtain ⟨g7, h⟩ := h
  refine g_iadd 2799 (show op 0 2798 = some (.iadd, 1) by decide +kernel) rfl g7 ?_
  obtain ⟨g8, h⟩ := h
  refine g_scr 2800 (show op 0 2799 = some (.iaload, 1) by decide +kernel) rfl g8 ?_
  obtain ⟨g12, h⟩ := h
  obtain ⟨v10, s9, hD11, h⟩ := h
  refine g_call 2803 [(.inl v10)] (show op 0 2800 = some (.invokevirtual 316, 3) by decide +kernel) (call_viL (c := 0) (s := 0) (nj := 2) (j := 354) (k9 := 21) (t := []) (as := [(.inr (.inr (some 682))), (.inl (s3 SCR ((x4 + 1)).toNat))]) (by decide +kernel) rfl (by decide +kernel) g12 rfl rfl rfl rfl rfl rfl (by decide +kernel) (by decide +kernel)) hD11 rfl ?_
  refine g_istore 2805 [(some (.inr (.inr (some SCR)))), (some (.inr (.inr (some 0)))), (some (.inr (.inr (some 682)))), (some (.inr (.inr (some 726)))), (some (.inl x4)), (some (.inl v4)), (some (.inl v10))] (show op 0 2803 = some (.istore 6, 2) by decide +kernel) rfl rfl rfl ?_
  refine g_aload_n 2806 (show op 0 2805 = some (.aload_n 2, 1) by decide +kernel) rfl rfl ?_
  obtain ⟨g16, h⟩ := h
  obtain ⟨v14, s13, hD15, h⟩ := h
  refine g_call 2809 [(.inl v14)] (show op 0 2806 = some (.invokevirtual 194, 3) by decide +kernel) (call_viL (c := 0) (s := 0) (nj := 1) (j := 244) (k9 := 21) (t := []) (as := [(.inr (.inr (some 682)))]) (by decide +kernel) rfl (by decide +kernel) g16 rfl rfl rfl rfl rfl rfl (by decide +kernel) (by decide +kernel)) hD15 rfl ?_
  refine g_iload 2811 (show op 0 2809 = some (.iload 5, 2) by decide +kernel) rfl rfl ?_
  by_cases hc17 : v14 = v4
  · rw [if_pos hc17] at h
    refine g_icmpT 2816 (show op 0 2811 = some (.if_icmp .eq 5, 3) by decide +kernel) rfl (decide_eq_true hc17) ?_
    refine g_iload 2818 (show op 0 2816 = some (.iload 5, 2) by decide +kernel) rfl rfl ?_
    by_cases hc18 : v4 = 0
    · rw [if_pos hc18] at h
      refine g_ifF 2821 2833 (show op 0 2818 = some (.ifCond .ne 15, 3) by decide +kernel) rfl rfl (decide_eq_false (fun h9 => h9 hc18)) ?_
      refine g_aload_n 2822 (show op 0 2821 = some (.aload_n 3, 1) by decide +kernel) rfl rfl ?_
      refine g_iconst 2823 (show op 0 2822 = some (.iconst 0, 1) by decide +kernel) rfl rfl ?_
      refine g_laload 2824 1 (show op 0 2823 = some (.laload, 1) by decide +kernel) rfl (by decide +kernel) (by decide) ?_
      refine g_iload 2826 (show op 0 2824 = some (.iload 6, 2) by decide +kernel) rfl rfl ?_
      refine g_i2l 2827 (show op 0 2826 = some (.i2l, 1) by decide +kernel) rfl ?_
      refine g_lcmp 2828 (show op 0 2827 = some (.lcmp, 1) by decide +kernel) rfl ?_
      by_cases hc19 : (if v10 < (s13 726 (0 : Int).toNat) then 1 else if (s13 726 (0 : Int).toNat) = v10 then 0 else -1) = 0
      · rw [if_pos hc19] at h
        refine g_ifT 2833 (show op 0 2828 = some (.ifCond .eq 5, 3) by decide +kernel) rfl (decide_eq_true hc19) ?_
        exact h
      · rw [if_neg hc19] at h
        refine g_ifF 2831 2833 (show op 0 2828 = some (.ifCond .eq 5, 3) by decide +kernel) rfl rfl (decide_eq_false hc19) ?_
        refine g_iconst 2832 (show op 0 2831 = some (.iconst 0, 1) by decide +kernel) rfl rfl ?_
        exact (g_zret (show op 0 2832 = some (.ireturn, 1) by decide +kernel) (by decide +kernel) (by decide) h)
    · rw [if_neg hc18] at h
      refine g_ifT 2833 (show op 0 2818 = some (.ifCond .ne 15, 3) by decide +kernel) rfl (decide_eq_true hc18) ?_
      exact h
  · rw [if_neg hc17] at h
    refine g_icmpF 2814 2816 (show op 0 2811 = some (.if_icmp .eq 5, 3) by decide +kernel) rfl rfl (decide_eq_false hc17) ?_
    refine g_iconst 2815 (show op 0 2814 = some (.iconst 0, 1) by decide +kernel) rfl rfl ?_
    exact (g_zret (show op 0 2815 = some (.ireturn, 1) by decide +kernel) (by decide +kernel) (by decide) h)
theorem b0_2836 {x4 : Int} {d5 : Option AV} {d6 : Option AV} {k : Nat} {n : Nat} {σ : Sg} {o : Rs} (h : (-2147483648 ≤ (x4 + 1) ∧ (x4 + 1) ≤ 2147483647) ∧ (0 ≤ (x4 + 1) ∧ (x4 + 1) < σ (SCR + 1) 0) ∧ ((k + 1) ≤ 601024 ∧ (n + 6) ≤ 7293034) ∧ (∃ (v4 : Int) (s3 : Sg), Dd 426 [(.inr (.inr (some 0))), (.inl (σ SCR ((x4 + 1)).toNat)), (.inr (.inr (some 726)))] σ (.inl (some (.inl v4)), s3) ∧ (-2147483648 ≤ (x4 + 1) ∧ (x4 + 1) ≤ 2147483647) ∧ (0 ≤ (x4 + 1) ∧ (x4 + 1) < s3 (SCR + 1) 0) ∧ ((k + 1) ≤ 601024 ∧ (n + 6) ≤ 7293034) ∧ (∃ (v10 : Int) (s9 : Sg), Dd 355 [(.inr (.inr (some 682))), (.inl (s3 SCR ((x4 + 1)).toNat))] s3 (.inl (some (.inl v10)), s9) ∧ ((k + 1) ≤ 601024 ∧ (n + 6) ≤ 7293034) ∧ (∃ (v14 : Int) (s13 : Sg), Dd 244 [(.inr (.inr (some 682)))] s9 (.inl (some (.inl v14)), s13) ∧ (if v14 = v4 then (if v4 = 0 then (if (if v10 < (s13 726 (0 : Int).toNat) then 1 else if (s13 726 (0 : Int).toNat) = v10 then 0 else -1) = 0 then C0_2889 x4 (some (.inl v4)) (some (.inl v10)) (k + 1) (n + 6) s13 o else o = (.inl (some (.inl 0)), s13)) else C0_2889 x4 (some (.inl v4)) (some (.inl v10)) (k + 1) (n + 6) s13 o) else o = (.inl (some (.inl 0)), s13)))))) : C0_2836 x4 d5 d6 k n σ o := by
  show Gd 0 2836 [(some (.inr (.inr (some SCR)))), (some (.inr (.inr (some 0)))), (some (.inr (.inr (some 682)))), (some (.inr (.inr (some 726)))), (some (.inl x4)), d5, d6] [] σ k n o
  refine g_aload_n 2837 (show op 0 2836 = some (.aload_n 1, 1) by decide +kernel) rfl rfl ?_
  refine g_aload_n 2838 (show op 0 2837 = some (.aload_n 0, 1) by decide +kernel) rfl rfl ?_
  refine g_iload 2840 (show op 0 2838 = some (.iload 4, 2) by decide +kernel) rfl rfl ?_
  refine g_iconst 2841 (show op 0 2840 = some (.iconst 1, 1) by decide +kernel) rfl rfl ?_
  obtain ⟨g1, h⟩ := h
  refine g_iadd 2842 (show op 0 2841 = some (.iadd, 1) by decide +kernel) rfl g1 ?_
  obtain ⟨g2, h⟩ := h
  refine g_scr 2843 (show op 0 2842 = some (.iaload, 1) by decide +kernel) rfl g2 ?_
  refine g_aload_n 2844 (show op 0 2843 = some (.aload_n 3, 1) by decide +kernel) rfl rfl ?_
  obtain ⟨g6, h⟩ := h
  obtain ⟨v4, s3, hD5, h⟩ := h
  refine g_call 2847 [(.inl v4)] (show op 0 2844 = some (.invokestatic 317, 3) by decide +kernel) (call_stL (c := 1) (s := 6) (nj := 3) (j := 426) (t := []) (as := [(.inr (.inr (some 0))), (.inl (σ SCR ((x4 + 1)).toNat)), (.inr (.inr (some 726)))]) (by decide +kernel) rfl (by decide +kernel) g6 rfl rfl rfl rfl rfl) hD5 rfl ?_
  refine g_istore 2849 [(some (.inr (.inr (some SCR)))), (some (.inr (.inr (some 0)))), (some (.inr (.inr (some 682)))), (some (.inr (.inr (some 726)))), (some (.inl x4)), (some (.inl v4)), d6] (show op 0 2847 = some (.istore 5, 2) by decide +kernel) rfl rfl rfl ?_
  refine g_aload_n 2850 (show op 0 2849 = some (.aload_n 2, 1) by decide +kernel) rfl rfl ?_
  refine g_aload_n 2851 (show op 0 2850 = some (.aload_n 0, 1) by decide +kernel) rfl rfl ?_
  refine g_iload 2853 (show op 0 2851 = some (.iload 4, 2) by decide +kernel) rfl rfl ?_
  refine g_iconst 2854 (show op 0 2853 = some (.iconst 1, 1) by decide +kernel) rfl rfl ?_
  obtain ⟨g7, h⟩ := h
  refine g_iadd 2855 (show op 0 2854 = some (.iadd, 1) by decide +kernel) rfl g7 ?_
  obtain ⟨g8, h⟩ := h
  refine g_scr 2856 (show op 0 2855 = some (.iaload, 1) by decide +kernel) rfl g8 ?_
  obtain ⟨g12, h⟩ := h
  obtain ⟨v10, s9, hD11, h⟩ := h
  refine g_call 2859 [(.inl v10)] (show op 0 2856 = some (.invokevirtual 319, 3) by decide +kernel) (call_viL (c := 0) (s := 0) (nj := 2) (j := 355) (k9 := 21) (t := []) (as := [(.inr (.inr (some 682))), (.inl (s3 SCR ((x4 + 1)).toNat))]) (by decide +kernel) rfl (by decide +kernel) g12 rfl rfl rfl rfl rfl rfl (by decide +kernel) (by decide +kernel)) hD11 rfl ?_
  refine g_istore 2861 [(some (.inr (.inr (some SCR)))), (some (.inr (.inr (some 0)))), (some (.inr (.inr (some 682)))), (some (.inr (.inr (some 726)))), (some (.inl x4)), (some (.inl v4)), (some (.inl v10))] (show op 0 2859 = some (.istore 6, 2) by decide +kernel) rfl rfl rfl ?_
  refine g_aload_n 2862 (show op 0 2861 = some (.aload_n 2, 1) by decide +kernel) rfl rfl ?_
  obtain ⟨g16, h⟩ := h
  obtain ⟨v14, s13, hD15, h⟩ := h
  refine g_call 2865 [(.inl v14)] (show op 0 2862 = some (.invokevirtual 194, 3) by decide +kernel) (call_viL (c := 0) (s := 0) (nj := 1) (j := 244) (k9 := 21) (t := []) (as := [(.inr (.inr (some 682)))]) (by decide +kernel) rfl (by decide +kernel) g16 rfl rfl rfl rfl rfl rfl (by decide +kernel) (by decide +kernel)) hD15 rfl ?_
  refine g_iload 2867 (show op 0 2865 = some (.iload 5, 2) by decide +kernel) rfl rfl ?_
  by_cases hc17 : v14 = v4
  · rw [if_pos hc17] at h
    refine g_icmpT 2872 (show op 0 2867 = some (.if_icmp .eq 5, 3) by decide +kernel) rfl (decide_eq_true hc17) ?_
    refine g_iload 2874 (show op 0 2872 = some (.iload 5, 2) by decide +kernel) rfl rfl ?_
    by_cases hc18 : v4 = 0
    · rw [if_pos hc18] at h
      refine g_ifF 2877 2889 (show op 0 2874 = some (.ifCond .ne 15, 3) by decide +kernel) rfl rfl (decide_eq_false (fun h9 => h9 hc18)) ?_
      refine g_aload_n 2878 (show op 0 2877 = some (.aload_n 3, 1) by decide +kernel) rfl rfl ?_
      refine g_iconst 2879 (show op 0 2878 = some (.iconst 0, 1) by decide +kernel) rfl rfl ?_
      refine g_laload 2880 1 (show op 0 2879 = some (.laload, 1) by decide +kernel) rfl (by decide +kernel) (by decide) ?_
      refine g_iload 2882 (show op 0 2880 = some (.iload 6, 2) by decide +kernel) rfl rfl ?_
      refine g_i2l 2883 (show op 0 2882 = some (.i2l, 1) by decide +kernel) rfl ?_
      refine g_lcmp 2884 (show op 0 2883 = some (.lcmp, 1) by decide +kernel) rfl ?_
      by_cases hc19 : (if v10 < (s13 726 (0 : Int).toNat) then 1 else if (s13 726 (0 : Int).toNat) = v10 then 0 else -1) = 0
      · rw [if_pos hc19] at h
        refine g_ifT 2889 (show op 0 2884 = some (.ifCond .eq 5, 3) by decide +kernel) rfl (decide_eq_true hc19) ?_
        exact h
      · rw [if_neg hc19] at h
        refine g_ifF 2887 2889 (show op 0 2884 = some (.ifCond .eq 5, 3) by decide +kernel) rfl rfl (decide_eq_false hc19) ?_
        refine g_iconst 2888 (show op 0 2887 = some (.iconst 0, 1) by decide +kernel) rfl rfl ?_
        exact (g_zret (show op 0 2888 = some (.ireturn, 1) by decide +kernel) (by decide +kernel) (by decide) h)
    · rw [if_neg hc18] at h
      refine g_ifT 2889 (show op 0 2874 = some (.ifCond .ne 15, 3) by decide +kernel) rfl (decide_eq_true hc18) ?_
      exact h
  · rw [if_neg hc17] at h
    refine g_icmpF 2870 2872 (show op 0 2867 = some (.if_icmp .eq 5, 3) by decide +kernel) rfl rfl (decide_eq_false hc17) ?_
    refine g_iconst 2871 (show op 0 2870 = some (.iconst 0, 1) by decide +kernel) rfl rfl ?_
    exact (g_zret (show op 0 2871 = some (.ireturn, 1) by decide +kernel) (by decide +kernel) (by decide) h)
theorem b0_2892 {x4 : Int} {d5 : Option AV} {d6 : Option AV} {k : Nat} {n : Nat} {σ : Sg} {o : Rs} (h : (-2147483648 ≤ (x4 + 1) ∧ (x4 + 1) ≤ 2147483647) ∧ (0 ≤ (x4 + 1) ∧ (x4 + 1) < σ (SCR + 1) 0) ∧ ((k + 1) ≤ 601024 ∧ (n + 6) ≤ 7293034) ∧ (∃ (v4 : Int) (s3 : Sg), Dd 427 [(.inr (.inr (some 0))), (.inl (σ SCR ((x4 + 1)).toNat)), (.inr (.inr (some 726)))] σ (.inl (some (.inl v4)), s3) ∧ (-2147483648 ≤ (x4 + 1) ∧ (x4 + 1) ≤ 2147483647) ∧ (0 ≤ (x4 + 1) ∧ (x4 + 1) < s3 (SCR + 1) 0) ∧ ((k + 1) ≤ 601024 ∧ (n + 6) ≤ 7293034) ∧ (∃ (v10 : Int) (s9 : Sg), Dd 357 [(.inr (.inr (some 682))), (.inl (s3 SCR ((x4 + 1)).toNat))] s3 (.inl (some (.inl v10)), s9) ∧ ((k + 1) ≤ 601024 ∧ (n + 6) ≤ 7293034) ∧ (∃ (v14 : Int) (s13 : Sg), Dd 244 [(.inr (.inr (some 682)))] s9 (.inl (some (.inl v14)), s13) ∧ (if v14 = v4 then (if v4 = 0 then (if (if v10 < (s13 726 (0 : Int).toNat) then 1 else if (s13 726 (0 : Int).toNat) = v10 then 0 else -1) = 0 then C0_2945 x4 (some (.inl v4)) (some (.inl v10)) (k + 1) (n + 6) s13 o else o = (.inl (some (.inl 0)), s13)) else C0_2945 x4 (some (.inl v4)) (some (.inl v10)) (k + 1) (n + 6) s13 o) else o = (.inl (some (.inl 0)), s13)))))) : C0_2892 x4 d5 d6 k n σ o := by
  show Gd 0 2892 [(some (.inr (.inr (some SCR)))), (some (.inr (.inr (some 0)))), (some (.inr (.inr (some 682)))), (some (.inr (.inr (some 726)))), (some (.inl x4)), d5, d6] [] σ k n o
  refine g_aload_n 2893 (show op 0 2892 = some (.aload_n 1, 1) by decide +kernel) rfl rfl ?_
  refine g_aload_n 2894 (show op 0 2893 = some (.aload_n 0, 1) by decide +kernel) rfl rfl ?_
  refine g_iload 2896 (show op 0 2894 = some (.iload 4, 2) by decide +kernel) rfl rfl ?_
  refine g_iconst 2897 (show op 0 2896 = some (.iconst 1, 1) by decide +kernel) rfl rfl ?_
  obtain ⟨g1, h⟩ := h
  refine g_iadd 2898 (show op 0 2897 = some (.iadd, 1) by decide +kernel) rfl g1 ?_
  obtain ⟨g2, h⟩ := h
  refine g_scr 2899 (show op 0 2898 = some (.iaload, 1) by decide +kernel) rfl g2 ?_
  refine g_aload_n 2900 (show op 0 2899 = some (.aload_n 3, 1) by decide +kernel) rfl rfl ?_
  obtain ⟨g6, h⟩ := h
  obtain ⟨v4, s3, hD5, h⟩ := h
  refine g_call 2903 [(.inl v4)] (show op 0 2900 = some (.invokestatic 320, 3) by decide +kernel) (call_stL (c := 1) (s := 6) (nj := 3) (j := 427) (t := []) (as := [(.inr (.inr (some 0))), (.inl (σ SCR ((x4 + 1)).toNat)), (.inr (.inr (some 726)))]) (by decide +kernel) rfl (by decide +kernel) g6 rfl rfl rfl rfl rfl) hD5 rfl ?_
  refine g_istore 2905 [(some (.inr (.inr (some SCR)))), (some (.inr (.inr (some 0)))), (some (.inr (.inr (some 682)))), (some (.inr (.inr (some 726)))), (some (.inl x4)), (some (.inl v4)), d6] (show op 0 2903 = some (.istore 5, 2) by decide +kernel) rfl rfl rfl ?_
  refine g_aload_n 2906 (show op 0 2905 = some (.aload_n 2, 1) by decide +kernel) rfl rfl ?_
  refine g_aload_n 2907 (show op 0 2906 = some (.aload_n 0, 1) by decide +kernel) rfl rfl ?_
  refine g_iload 2909 (show op 0 2907 = some (.iload 4, 2) by decide +kernel) rfl rfl ?_
  refine g_iconst 2910 (show op 0 2909 = some (.iconst 1, 1) by decide +kernel) rfl rfl ?_
  obtain ⟨g7, h⟩ := h
  refine g_iadd 2911 (show op 0 2910 = some (.iadd, 1) by decide +kernel) rfl g7 ?_
  obtain ⟨g8, h⟩ := h
  refine g_scr 2912 (show op 0 2911 = some (.iaload, 1) by decide +kernel) rfl g8 ?_
  obtain ⟨g12, h⟩ := h
  obtain ⟨v10, s9, hD11, h⟩ := h
  refine g_call 2915 [(.inl v10)] (show op 0 2912 = some (.invokevirtual 322, 3) by decide +kernel) (call_viL (c := 0) (s := 0) (nj := 2) (j := 357) (k9 := 21) (t := []) (as := [(.inr (.inr (some 682))), (.inl (s3 SCR ((x4 + 1)).toNat))]) (by decide +kernel) rfl (by decide +kernel) g12 rfl rfl rfl rfl rfl rfl (by decide +kernel) (by decide +kernel)) hD11 rfl ?_
  refine g_istore 2917 [(some (.inr (.inr (some SCR)))), (some (.inr (.inr (some 0)))), (some (.inr (.inr (some 682)))), (some (.inr (.inr (some 726)))), (some (.inl x4)), (some (.inl v4)), (some (.inl v10))] (show op 0 2915 = some (.istore 6, 2) by decide +kernel) rfl rfl rfl ?_
  refine g_aload_n 2918 (show op 0 2917 = some (.aload_n 2, 1) by decide +kernel) rfl rfl ?_
  obtain ⟨g16, h⟩ := h
  obtain ⟨v14, s13, hD15, h⟩ := h
  refine g_call 2921 [(.inl v14)] (show op 0 2918 = some (.invokevirtual 194, 3) by decide +kernel) (call_viL (c := 0) (s := 0) (nj := 1) (j := 244) (k9 := 21) (t := []) (as := [(.inr (.inr (some 682)))]) (by decide +kernel) rfl (by decide +kernel) g16 rfl rfl rfl rfl rfl rfl (by decide +kernel) (by decide +kernel)) hD15 rfl ?_
  refine g_iload 2923 (show op 0 2921 = some (.iload 5, 2) by decide +kernel) rfl rfl ?_
  by_cases hc17 : v14 = v4
  · rw [if_pos hc17] at h
    refine g_icmpT 2928 (show op 0 2923 = some (.if_icmp .eq 5, 3) by decide +kernel) rfl (decide_eq_true hc17) ?_
    refine g_iload 2930 (show op 0 2928 = some (.iload 5, 2) by decide +kernel) rfl rfl ?_
    by_cases hc18 : v4 = 0
    · rw [if_pos hc18] at h
      refine g_ifF 2933 2945 (show op 0 2930 = some (.ifCond .ne 15, 3) by decide +kernel) rfl rfl (decide_eq_false (fun h9 => h9 hc18)) ?_
      refine g_aload_n 2934 (show op 0 2933 = some (.aload_n 3, 1) by decide +kernel) rfl rfl ?_
      refine g_iconst 2935 (show op 0 2934 = some (.iconst 0, 1) by decide +kernel) rfl rfl ?_
      refine g_laload 2936 1 (show op 0 2935 = some (.laload, 1) by decide +kernel) rfl (by decide +kernel) (by decide) ?_
      refine g_iload 2938 (show op 0 2936 = some (.iload 6, 2) by decide +kernel) rfl rfl ?_
      refine g_i2l 2939 (show op 0 2938 = some (.i2l, 1) by decide +kernel) rfl ?_
      refine g_lcmp 2940 (show op 0 2939 = some (.lcmp, 1) by decide +kernel) rfl ?_
      by_cases hc19 : (if v10 < (s13 726 (0 : Int).toNat) then 1 else if (s13 726 (0 : Int).toNat) = v10 then 0 else -1) = 0
      · rw [if_pos hc19] at h
        refine g_ifT 2945 (show op 0 2940 = some (.ifCond .eq 5, 3) by decide +kernel) rfl (decide_eq_true hc19) ?_
        exact h
      · rw [if_neg hc19] at h
        refine g_ifF 2943 2945 (show op 0 2940 = some (.ifCond .eq 5, 3) by decide +kernel) rfl rfl (decide_eq_false hc19) ?_
        refine g_iconst 2944 (show op 0 2943 = some (.iconst 0, 1) by decide +kernel) rfl rfl ?_
        exact (g_zret (show op 0 2944 = some (.ireturn, 1) by decide +kernel) (by decide +kernel) (by decide) h)
    · rw [if_neg hc18] at h
      refine g_ifT 2945 (show op 0 2930 = some (.ifCond .ne 15, 3) by decide +kernel) rfl (decide_eq_true hc18) ?_
      exact h
  · rw [if_neg hc17] at h
    refine g_icmpF 2926 2928 (show op 0 2923 = some (.if_icmp .eq 5, 3) by decide +kernel) rfl rfl (decide_eq_false hc17) ?_
    refine g_iconst 2927 (show op 0 2926 = some (.iconst 0, 1) by decide +kernel) rfl rfl ?_
    exact (g_zret (show op 0 2927 = some (.ireturn, 1) by decide +kernel) (by decide +kernel) (by decide) h)
theorem b0_2948 {x4 : Int} {d5 : Option AV} {d6 : Option AV} {k : Nat} {n : Nat} {σ : Sg} {o : Rs} (h : ((k + 1) ≤ 601024 ∧ (n + 6) ≤ 7293034) ∧ (∃ (v2 : Int) (s1 : Sg), Dd 428 [(.inr (.inr (some 0))), (.inr (.inr (some 726)))] σ (.inl (some (.inl v2)), s1) ∧ ((k + 1) ≤ 601024 ∧ (n + 6) ≤ 7293034) ∧ (∃ (v6 : Int) (s5 : Sg), Dd 361 [(.inr (.inr (some 682)))] s1 (.inl (some (.inl v6)), s5) ∧ ((k + 1) ≤ 601024 ∧ (n + 6) ≤ 7293034) ∧ (∃ (v10 : Int) (s9 : Sg), Dd 244 [(.inr (.inr (some 682)))] s5 (.inl (some (.inl v10)), s9) ∧ (if v10 = v2 then (if v2 = 0 then (if (if v6 < (s9 726 (0 : Int).toNat) then 1 else if (s9 726 (0 : Int).toNat) = v6 then 0 else -1) = 0 then C0_2989 x4 (some (.inl v2)) (some (.inl v6)) (k + 1) (n + 6) s9 o else o = (.inl (some (.inl 0)), s9)) else C0_2989 x4 (some (.inl v2)) (some (.inl v6)) (k + 1) (n + 6) s9 o) else o = (.inl (some (.inl 0)), s9)))))) : C0_2948 x4 d5 d6 k n σ o := by
  show Gd 0 2948 [(some (.inr (.inr (some SCR)))), (some (.inr (.inr (some 0)))), (some (.inr (.inr (some 682)))), (some (.inr (.inr (some 726)))), (some (.inl x4)), d5, d6] [] σ k n o
  refine g_aload_n 2949 (show op 0 2948 = some (.aload_n 1, 1) by decide +kernel) rfl rfl ?_
  refine g_aload_n 2950 (show op 0 2949 = some (.aload_n 3, 1) by decide +kernel) rfl rfl ?_
  obtain ⟨g4, h⟩ := h
  obtain ⟨v2, s1, hD3, h⟩ := h
  refine g_call 2953 [(.inl v2)] (show op 0 2950 = some (.invokestatic 323, 3) by decide +kernel) (call_stL (c := 1) (s := 6) (nj := 2) (j := 428) (t := []) (as := [(.inr (.inr (some 0))), (.inr (.inr (some 726)))]) (by decide +kernel) rfl (by decide +kernel) g4 rfl rfl rfl rfl rfl) hD3 rfl ?_
  refine g_istore 2955 [(some (.inr (.inr (some SCR)))), (some (.inr (.inr (some 0)))), (some (.inr (.inr (some 682)))), (some (.inr (.inr (some 726)))), (some (.inl x4)), (some (.inl v2)), d6] (show op 0 2953 = some (.istore 5, 2) by decide +kernel) rfl rfl rfl ?_
  refine g_aload_n 2956 (show op 0 2955 = some (.aload_n 2, 1) by decide +kernel) rfl rfl ?_
  obtain ⟨g8, h⟩ := h
  obtain ⟨v6, s5, hD7, h⟩ := h
  refine g_call 2959 [(.inl v6)] (show op 0 2956 = some (.invokevirtual 325, 3) by decide +kernel) (call_viL (c := 0) (s := 0) (nj := 1) (j := 361) (k9 := 21) (t := []) (as := [(.inr (.inr (some 682)))]) (by decide +kernel) rfl (by decide +kernel) g8 rfl rfl rfl rfl rfl rfl (by decide +kernel) (by decide +kernel)) hD7 rfl ?_
  refine g_istore 2961 [(some (.inr (.inr (some SCR)))), (some (.inr (.inr (some 0)))), (some (.inr (.inr (some 682)))), (some (.inr (.inr (some 726)))), (some (.inl x4)), (some (.inl v2)), (some (.inl v6))] (show op 0 2959 = some (.istore 6, 2) by decide +kernel) rfl rfl rfl ?_
  refine g_aload_n 2962 (show op 0 2961 = some (.aload_n 2, 1) by decide +kernel) rfl rfl ?_
  obtain ⟨g12, h⟩ := h
  obtain ⟨v10, s9, hD11, h⟩ := h
  refine g_call 2965 [(.inl v10)] (show op 0 2962 = some (.invokevirtual 194, 3) by decide +kernel) (call_viL (c := 0) (s := 0) (nj := 1) (j := 244) (k9 := 21) (t := []) (as := [(.inr (.inr (some 682)))]) (by decide +kernel) rfl (by decide +kernel) g12 rfl rfl rfl rfl rfl rfl (by decide +kernel) (by decide +kernel)) hD11 rfl ?_
  refine g_iload 2967 (show op 0 2965 = some (.iload 5, 2) by decide +kernel) rfl rfl ?_
  by_cases hc13 : v10 = v2
  · rw [if_pos hc13] at h
    refine g_icmpT 2972 (show op 0 2967 = some (.if_icmp .eq 5, 3) by decide +kernel) rfl (decide_eq_true hc13) ?_
    refine g_iload 2974 (show op 0 2972 = some (.iload 5, 2) by decide +kernel) rfl rfl ?_
    by_cases hc14 : v2 = 0
    · rw [if_pos hc14] at h
      refine g_ifF 2977 2989 (show op 0 2974 = some (.ifCond .ne 15, 3) by decide +kernel) rfl rfl (decide_eq_false (fun h9 => h9 hc14)) ?_
      refine g_aload_n 2978 (show op 0 2977 = some (.aload_n 3, 1) by decide +kernel) rfl rfl ?_
      refine g_iconst 2979 (show op 0 2978 = some (.iconst 0, 1) by decide +kernel) rfl rfl ?_
      refine g_laload 2980 1 (show op 0 2979 = some (.laload, 1) by decide +kernel) rfl (by decide +kernel) (by decide) ?_
      refine g_iload 2982 (show op 0 2980 = some (.iload 6, 2) by decide +kernel) rfl rfl ?_
      refine g_i2l 2983 (show op 0 2982 = some (.i2l, 1) by decide +kernel) rfl ?_
      refine g_lcmp 2984 (show op 0 2983 = some (.lcmp, 1) by decide +kernel) rfl ?_
      by_cases hc15 : (if v6 < (s9 726 (0 : Int).toNat) then 1 else if (s9 726 (0 : Int).toNat) = v6 then 0 else -1) = 0
      · rw [if_pos hc15] at h
        refine g_ifT 2989 (show op 0 2984 = some (.ifCond .eq 5, 3) by decide +kernel) rfl (decide_eq_true hc15) ?_
        exact h
      · rw [if_neg hc15] at h
        refine g_ifF 2987 2989 (show op 0 2984 = some (.ifCond .eq 5, 3) by decide +kernel) rfl rfl (decide_eq_false hc15) ?_
        refine g_iconst 2988 (show op 0 2987 = some (.iconst 0, 1) by decide +kernel) rfl rfl ?_
        exact (g_zret (show op 0 2988 = some (.ireturn, 1) by decide +kernel) (by decide +kernel) (by decide) h)
    · rw [if_neg hc14] at h
      refine g_ifT 2989 (show op 0 2974 = some (.ifCond .ne 15, 3) by decide +kernel) rfl (decide_eq_true hc14) ?_
      exact h
  · rw [if_neg hc13] at h
    refine g_icmpF 2970 2972 (show op 0 2967 = some (.if_icmp .eq 5, 3) by decide +kernel) rfl rfl (decide_eq_false hc13) ?_
    refine g_iconst 2971 (show op 0 2970 = some (.iconst 0, 1) by decide +kernel) rfl rfl ?_
    exact (g_zret (show op 0 2971 = some (.ireturn, 1) by decide +kernel) (by decide +kernel) (by decide) h)
theorem b0_2992 {x4 : Int} {d5 : Option AV} {d6 : Option AV} {k : Nat} {n : Nat} {σ : Sg} {o : Rs} (h : (-2147483648 ≤ (x4 + 1) ∧ (x4 + 1) ≤ 2147483647) ∧ (0 ≤ (x4 + 1) ∧ (x4 + 1) < σ (SCR + 1) 0) ∧ ((k + 1) ≤ 601024 ∧ (n + 6) ≤ 7293034) ∧ (∃ (v4 : Int) (s3 : Sg), Dd 429 [(.inr (.inr (some 0))), (.inl (σ SCR ((x4 + 1)).toNat)), (.inr (.inr (some 726)))] σ (.inl (some (.inl v4)), s3) ∧ (-2147483648 ≤ (x4 + 1) ∧ (x4 + 1) ≤ 2147483647) ∧ (0 ≤ (x4 + 1) ∧ (x4 + 1) < s3 (SCR + 1) 0) ∧ ((k + 1) ≤ 601024 ∧ (n + 6) ≤ 7293034) ∧ (∃ (v10 : Int) (s9 : Sg), Dd 366 [(.inr (.inr (some 682))), (.inl (s3 SCR ((x4 + 1)).toNat))] s3 (.inl (some (.inl v10)), s9) ∧ ((k + 1) ≤ 601024 ∧ (n + 6) ≤ 7293034) ∧ (∃ (v14 : Int) (s13 : Sg), Dd 244 [(.inr (.inr (some 682)))] s9 (.inl (some (.inl v14)), s13) ∧ (if v14 = v4 then (if v4 = 0 then (if (if v10 < (s13 726 (0 : Int).toNat) then 1 else if (s13 726 (0 : Int).toNat) = v10 then 0 else -1) = 0 then C0_3045 x4 (some (.inl v4)) (some (.inl v10)) (k + 1) (n + 6) s13 o else o = (.inl (some (.inl 0)), s13)) else C0_3045 x4 (some (.inl v4)) (some (.inl v10)) (k + 1) (n + 6) s13 o) else o = (.inl (some (.inl 0)), s13)))))) : C0_2992 x4 d5 d6 k n σ o := by
  show Gd 0 2992 [(some (.inr (.inr (some SCR)))), (some (.inr (.inr (some 0)))), (some (.inr (.inr (some 682)))), (some (.inr (.inr (some 726)))), (some (.inl x4)), d5, d6] [] σ k n o
  refine g_aload_n 2993 (show op 0 2992 = some (.aload_n 1, 1) by decide +kernel) rfl rfl ?_
  refine g_aload_n 2994 (show op 0 2993 = some (.aload_n 0, 1) by decide +kernel) rfl rfl ?_
  refine g_iload 2996 (show op 0 2994 = some (.iload 4, 2) by decide +kernel) rfl rfl ?_
  refine g_iconst 2997 (show op 0 2996 = some (.iconst 1, 1) by decide +kernel) rfl rfl ?_
  obtain ⟨g1, h⟩ := h
  refine g_iadd 2998 (show op 0 2997 = some (.iadd, 1) by decide +kernel) rfl g1 ?_
  obtain ⟨g2, h⟩ := h
  refine g_scr 2999 (show op 0 2998 = some (.iaload, 1) by decide +kernel) rfl g2 ?_
  refine g_aload_n 3000 (show op 0 2999 = some (.aload_n 3, 1) by decide +kernel) rfl rfl ?_
  obtain ⟨g6, h⟩ := h
  obtain ⟨v4, s3, hD5, h⟩ := h
  refine g_call 3003 [(.inl v4)] (show op 0 3000 = some (.invokestatic 326, 3) by decide +kernel) (call_stL (c := 1) (s := 6) (nj := 3) (j := 429) (t := []) (as := [(.inr (.inr (some 0))), (.inl (σ SCR ((x4 + 1)).toNat)), (.inr (.inr (some 726)))]) (by decide +kernel) rfl (by decide +kernel) g6 rfl rfl rfl rfl rfl) hD5 rfl ?_
  refine g_istore 3005 [(some (.inr (.inr (some SCR)))), (some (.inr (.inr (some 0)))), (some (.inr (.inr (some 682)))), (some (.inr (.inr (some 726)))), (some (.inl x4)), (some (.inl v4)), d6] (show op 0 3003 = some (.istore 5, 2) by decide +kernel) rfl rfl rfl ?_
  refine g_aload_n 3006 (show op 0 3005 = some (.aload_n 2, 1) by decide +kernel) rfl rfl ?_
  refine g_aload_n 3007 (show op 0 3006 = some (.aload_n 0, 1) by decide +kernel) rfl rfl ?_
  refine g_iload 3009 (show op 0 3007 = some (.iload 4, 2) by decide +kernel) rfl rfl ?_
  refine g_iconst 3010 (show op 0 3009 = some (.iconst 1, 1) by decide +kernel) rfl rfl ?_
  obtain ⟨g7, h⟩ := h
  refine g_iadd 3011 (show op 0 3010 = some (.iadd, 1) by decide +kernel) rfl g7 ?_
  obtain ⟨g8, h⟩ := h
  refine g_scr 3012 (show op 0 3011 = some (.iaload, 1) by decide +kernel) rfl g8 ?_
  obtain ⟨g12, h⟩ := h
  obtain ⟨v10, s9, hD11, h⟩ := h
  refine g_call 3015 [(.inl v10)] (show op 0 3012 = some (.invokevirtual 328, 3) by decide +kernel) (call_viL (c := 0) (s := 0) (nj := 2) (j := 366) (k9 := 21) (t := []) (as := [(.inr (.inr (some 682))), (.inl (s3 SCR ((x4 + 1)).toNat))]) (by decide +kernel) rfl (by decide +kernel) g12 rfl rfl rfl rfl rfl rfl (by decide +kernel) (by decide +kernel)) hD11 rfl ?_
  refine g_istore 3017 [(some (.inr (.inr (some SCR)))), (some (.inr (.inr (some 0)))), (some (.inr (.inr (some 682)))), (some (.inr (.inr (some 726)))), (some (.inl x4)), (some (.inl v4)), (some (.inl v10))] (show op 0 3015 = some (.istore 6, 2) by decide +kernel) rfl rfl rfl ?_
  refine g_aload_n 3018 (show op 0 3017 = some (.aload_n 2, 1) by decide +kernel) rfl rfl ?_
  obtain ⟨g16, h⟩ := h
  obtain ⟨v14, s13, hD15, h⟩ := h
  refine g_call 3021 [(.inl v14)] (show op 0 3018 = some (.invokevirtual 194, 3) by decide +kernel) (call_viL (c := 0) (s := 0) (nj := 1) (j := 244) (k9 := 21) (t := []) (as := [(.inr (.inr (some 682)))]) (by decide +kernel) rfl (by decide +kernel) g16 rfl rfl rfl rfl rfl rfl (by decide +kernel) (by decide +kernel)) hD15 rfl ?_
  refine g_iload 3023 (show op 0 3021 = some (.iload 5, 2) by decide +kernel) rfl rfl ?_
  by_cases hc17 : v14 = v4
  · rw [if_pos hc17] at h
    refine g_icmpT 3028 (show op 0 3023 = some (.if_icmp .eq 5, 3) by decide +kernel) rfl (decide_eq_true hc17) ?_
    refine g_iload 3030 (show op 0 3028 = some (.iload 5, 2) by decide +kernel) rfl rfl ?_
    by_cases hc18 : v4 = 0
    · rw [if_pos hc18] at h
      refine g_ifF 3033 3045 (show op 0 3030 = some (.ifCond .ne 15, 3) by decide +kernel) rfl rfl (decide_eq_false (fun h9 => h9 hc18)) ?_
      refine g_aload_n 3034 (show op 0 3033 = some (.aload_n 3, 1) by decide +kernel) rfl rfl ?_
      refine g_iconst 3035 (show op 0 3034 = some (.iconst 0, 1) by decide +kernel) rfl rfl ?_
      refine g_laload 3036 1 (show op 0 3035 = some (.laload, 1) by decide +kernel) rfl (by decide +kernel) (by decide) ?_
      refine g_iload 3038 (show op 0 3036 = some (.iload 6, 2) by decide +kernel) rfl rfl ?_
      refine g_i2l 3039 (show op 0 3038 = some (.i2l, 1) by decide +kernel) rfl ?_
      refine g_lcmp 3040 (show op 0 3039 = some (.lcmp, 1) by decide +kernel) rfl ?_
      by_cases hc19 : (if v10 < (s13 726 (0 : Int).toNat) then 1 else if (s13 726 (0 : Int).toNat) = v10 then 0 else -1) = 0
      · rw [if_pos hc19] at h
        refine g_ifT 3045 (show op 0 3040 = some (.ifCond .eq 5, 3) by decide +kernel) rfl (decide_eq_true hc19) ?_
        exact h
      · rw [if_neg hc19] at h
        refine g_ifF 3043 3045 (show op 0 3040 = some (.ifCond .eq 5, 3) by decide +kernel) rfl rfl (decide_eq_false hc19) ?_
        refine g_iconst 3044 (show op 0 3043 = some (.iconst 0, 1) by decide +kernel) rfl rfl ?_
        exact (g_zret (show op 0 3044 = some (.ireturn, 1) by decide +kernel) (by decide +kernel) (by decide) h)
    · rw [if_neg hc18] at h
      refine g_ifT 3045 (show op 0 3030 = some (.ifCond .ne 15, 3) by decide +kernel) rfl (decide_eq_true hc18) ?_
      exact h
  · rw [if_neg hc17] at h
    refine g_icmpF 3026 3028 (show op 0 3023 = some (.if_icmp .eq 5, 3) by decide +kernel) rfl rfl (decide_eq_false hc17) ?_
    refine g_iconst 3027 (show op 0 3026 = some (.iconst 0, 1) by decide +kernel) rfl rfl ?_
    exact (g_zret (show op 0 3027 = some (.ireturn, 1) by decide +kernel) (by decide +kernel) (by decide) h)
theorem b0_3048 {x4 : Int} {d5 : Option AV} {d6 : Option AV} {k : Nat} {n : Nat} {σ : Sg} {o : Rs} (h : (-2147483648 ≤ (x4 + 1) ∧ (x4 + 1) ≤ 2147483647) ∧ (0 ≤ (x4 + 1) ∧ (x4 + 1) < σ (SCR + 1) 0) ∧ ((k + 1) ≤ 601024 ∧ (n + 6) ≤ 7293034) ∧ (∃ (v4 : Int) (s3 : Sg), Dd 430 [(.inr (.inr (some 0))), (.inl (σ SCR ((x4 + 1)).toNat)), (.inr (.inr (some 726)))] σ (.inl (some (.inl v4)), s3) ∧ (-2147483648 ≤ (x4 + 1) ∧ (x4 + 1) ≤ 2147483647) ∧ (0 ≤ (x4 + 1) ∧ (x4 + 1) < s3 (SCR + 1) 0) ∧ ((k + 1) ≤ 601024 ∧ (n + 6) ≤ 7293034) ∧ (∃ (v10 : Int) (s9 : Sg), Dd 367 [(.inr (.inr (some 682))), (.inl (s3 SCR ((x4 + 1)).toNat))] s3 (.inl (some (.inl v10)), s9) ∧ ((k + 1) ≤ 601024 ∧ (n + 6) ≤ 7293034) ∧ (∃ (v14 : Int) (s13 : Sg), Dd 244 [(.inr (.inr (some 682)))] s9 (.inl (some (.inl v14)), s13) ∧ (if v14 = v4 then (if v4 = 0 then (if (if v10 < (s13 726 (0 : Int).toNat) then 1 else if (s13 726 (0 : Int).toNat) = v10 then 0 else -1) = 0 then C0_3101 x4 (some (.inl v4)) (some (.inl v10)) (k + 1) (n + 6) s13 o else o = (.inl (some (.inl 0)), s13)) else C0_3101 x4 (some (.inl v4)) (some (.inl v10)) (k + 1) (n + 6) s13 o) else o = (.inl (some (.inl 0)), s13)))))) : C0_3048 x4 d5 d6 k n σ o := by
  show Gd 0 3048 [(some (.inr (.inr (some SCR)))), (some (.inr (.inr (some 0)))), (some (.inr (.inr (some 682)))), (some (.inr (.inr (some 726)))), (some (.inl x4)), d5, d6] [] σ k n o
  refine g_aload_n 3049 (show op 0 3048 = some (.aload_n 1, 1) by decide +kernel) rfl rfl ?_
  refine g_aload_n 3050 (show op 0 3049 = some (.aload_n 0, 1) by decide +kernel) rfl rfl ?_
  refine g_iload 3052 (show op 0 3050 = some (.iload 4, 2) by decide +kernel) rfl rfl ?_
  refine g_iconst 3053 (show op 0 3052 = some (.iconst 1, 1) by decide +kernel) rfl rfl ?_
  obtain ⟨g1, h⟩ := h
  refine g_iadd 3054 (show op 0 3053 = some (.iadd, 1) by decide +kernel) rfl g1 ?_
  obtain ⟨g2, h⟩ := h
  refine g_scr 3055 (show op 0 3054 = some (.iaload, 1) by decide +kernel) rfl g2 ?_
  refine g_aload_n 3056 (show op 0 3055 = some (.aload_n 3, 1) by decide +kernel) rfl rfl ?_
  obtain ⟨g6, h⟩ := h
  obtain ⟨v4, s3, hD5, h⟩ := h
  refine g_call 3059 [(.inl v4)] (show op 0 3056 = some (.invokestatic 329, 3) by decide +kernel) (call_stL (c := 1) (s := 6) (nj := 3) (j := 430) (t := []) (as := [(.inr (.inr (some 0))), (.inl (σ SCR ((x4 + 1)).toNat)), (.inr (.inr (some 726)))]) (by decide +kernel) rfl (by decide +kernel) g6 rfl rfl rfl rfl rfl) hD5 rfl ?_
  refine g_istore 3061 [(some (.inr (.inr (some SCR)))), (some (.inr (.inr (some 0)))), (some (.inr (.inr (some 682)))), (some (.inr (.inr (some 726)))), (some (.inl x4)), (some (.inl v4)), d6] (show op 0 3059 = some (.istore 5, 2) by decide +kernel) rfl rfl rfl ?_
  refine g_aload_n 3062 (show op 0 3061 = some (.aload_n 2, 1) by decide +kernel) rfl rfl ?_
  refine g_aload_n 3063 (show op 0 3062 = some (.aload_n 0, 1) by decide +kernel) rfl rfl ?_
  refine g_iload 3065 (show op 0 3063 = some (.iload 4, 2) by decide +kernel) rfl rfl ?_
  refine g_iconst 3066 (show op 0 3065 = some (.iconst 1, 1) by decide +kernel) rfl rfl ?_
  obtain ⟨g7, h⟩ := h
  refine g_iadd 3067 (show op 0 3066 = some (.iadd, 1) by decide +kernel) rfl g7 ?_
  obtain ⟨g8, h⟩ := h
  refine g_scr 3068 (show op 0 3067 = some (.iaload, 1) by decide +kernel) rfl g8 ?_
  obtain ⟨g12, h⟩ := h
  obtain ⟨v10, s9, hD11, h⟩ := h
  refine g_call 3071 [(.inl v10)] (show op 0 3068 = some (.invokevirtual 331, 3) by decide +kernel) (call_viL (c := 0) (s := 0) (nj := 2) (j := 367) (k9 := 21) (t := []) (as := [(.inr (.inr (some 682))), (.inl (s3 SCR ((x4 + 1)).toNat))]) (by decide +kernel) rfl (by decide +kernel) g12 rfl rfl rfl rfl rfl rfl (by decide +kernel) (by decide +kernel)) hD11 rfl ?_
  refine g_istore 3073 [(some (.inr (.inr (some SCR)))), (some (.inr (.inr (some 0)))), (some (.inr (.inr (some 682)))), (some (.inr (.inr (some 726)))), (some (.inl x4)), (some (.inl v4)), (some (.inl v10))] (show op 0 3071 = some (.istore 6, 2) by decide +kernel) rfl rfl rfl ?_
  refine g_aload_n 3074 (show op 0 3073 = some (.aload_n 2, 1) by decide +kernel) rfl rfl ?_
  obtain ⟨g16, h⟩ := h
  obtain ⟨v14, s13, hD15, h⟩ := h
  refine g_call 3077 [(.inl v14)] (show op 0 3074 = some (.invokevirtual 194, 3) by decide +kernel) (call_viL (c := 0) (s := 0) (nj := 1) (j := 244) (k9 := 21) (t := []) (as := [(.inr (.inr (some 682)))]) (by decide +kernel) rfl (by decide +kernel) g16 rfl rfl rfl rfl rfl rfl (by decide +kernel) (by decide +kernel)) hD15 rfl ?_
  refine g_iload 3079 (show op 0 3077 = some (.iload 5, 2) by decide +kernel) rfl rfl ?_
  by_cases hc17 : v14 = v4
  · rw [if_pos hc17] at h
    refine g_icmpT 3084 (show op 0 3079 = some (.if_icmp .eq 5, 3) by decide +kernel) rfl (decide_eq_true hc17) ?_
    refine g_iload 3086 (show op 0 3084 = some (.iload 5, 2) by decide +kernel) rfl rfl ?_
    by_cases hc18 : v4 = 0
    · rw [if_pos hc18] at h
      refine g_ifF 3089 3101 (show op 0 3086 = some (.ifCond .ne 15, 3) by decide +kernel) rfl rfl (decide_eq_false (fun h9 => h9 hc18)) ?_
      refine g_aload_n 3090 (show op 0 3089 = some (.aload_n 3, 1) by decide +kernel) rfl rfl ?_
      refine g_iconst 3091 (show op 0 3090 = some (.iconst 0, 1) by decide +kernel) rfl rfl ?_
      refine g_laload 3092 1 (show op 0 3091 = some (.laload, 1) by decide +kernel) rfl (by decide +kernel) (by decide) ?_
      refine g_iload 3094 (show op 0 3092 = some (.iload 6, 2) by decide +kernel) rfl rfl ?_
      refine g_i2l 3095 (show op 0 3094 = some (.i2l, 1) by decide +kernel) rfl ?_
      refine g_lcmp 3096 (show op 0 3095 = some (.lcmp, 1) by decide +kernel) rfl ?_
      by_cases hc19 : (if v10 < (s13 726 (0 : Int).toNat) then 1 else if (s13 726 (0 : Int).toNat) = v10 then 0 else -1) = 0
      · rw [if_pos hc19] at h
        refine g_ifT 3101 (show op 0 3096 = some (.ifCond .eq 5, 3) by decide +kernel) rfl (decide_eq_true hc19) ?_
        exact h
      · rw [if_neg hc19] at h
        refine g_ifF 3099 3101 (show op 0 3096 = some (.ifCond .eq 5, 3) by decide +kernel) rfl rfl (decide_eq_false hc19) ?_
        refine g_iconst 3100 (show op 0 3099 = some (.iconst 0, 1) by decide +kernel) rfl rfl ?_
        exact (g_zret (show op 0 3100 = some (.ireturn, 1) by decide +kernel) (by decide +kernel) (by decide) h)
    · rw [if_neg hc18] at h
      refine g_ifT 3101 (show op 0 3086 = some (.ifCond .ne 15, 3) by decide +kernel) rfl (decide_eq_true hc18) ?_
      exact h
  · rw [if_neg hc17] at h
    refine g_icmpF 3082 3084 (show op 0 3079 = some (.if_icmp .eq 5, 3) by decide +kernel) rfl rfl (decide_eq_false hc17) ?_
    refine g_iconst 3083 (show op 0 3082 = some (.iconst 0, 1) by decide +kernel) rfl rfl ?_
    exact (g_zret (show op 0 3083 = some (.ireturn, 1) by decide +kernel) (by decide +kernel) (by decide) h)
theorem b0_3104 {x4 : Int} {d5 : Option AV} {d6 : Option AV} {k : Nat} {n : Nat} {σ : Sg} {o : Rs} (h : (-2147483648 ≤ (x4 + 1) ∧ (x4 + 1) ≤ 2147483647) ∧ (0 ≤ (x4 + 1) ∧ (x4 + 1) < σ (SCR + 1) 0) ∧ (-2147483648 ≤ (x4 + 2) ∧ (x4 + 2) ≤ 2147483647) ∧ (0 ≤ (x4 + 2) ∧ (x4 + 2) < σ (SCR + 1) 0) ∧ (-2147483648 ≤ (x4 + 3) ∧ (x4 + 3) ≤ 2147483647) ∧ (0 ≤ (x4 + 3) ∧ (x4 + 3) < σ (SCR + 1) 0) ∧ ((k + 3) ≤ 601024 ∧ (n + 18) ≤ 7293034) ∧ (∃ (v8 : Int) (s7 : Sg), Dd 431 [(.inr (.inr (some 0))), (.inl (σ SCR ((x4 + 1)).toNat)), (.inl (σ SCR ((x4 + 2)).toNat)), (.inl (σ SCR ((x4 + 3)).toNat)), (.inr (.inr (some 726)))] σ (.inl (some (.inl v8)), s7) ∧ (-2147483648 ≤ (x4 + 1) ∧ (x4 + 1) ≤ 2147483647) ∧ (0 ≤ (x4 + 1) ∧ (x4 + 1) < s7 (SCR + 1) 0) ∧ (-2147483648 ≤ (x4 + 2) ∧ (x4 + 2) ≤ 2147483647) ∧ (0 ≤ (x4 + 2) ∧ (x4 + 2) < s7 (SCR + 1) 0) ∧ (-2147483648 ≤ (x4 + 3) ∧ (x4 + 3) ≤ 2147483647) ∧ (0 ≤ (x4 + 3) ∧ (x4 + 3) < s7 (SCR + 1) 0) ∧ ((k + 3) ≤ 601024 ∧ (n + 18) ≤ 7293034) ∧ (∃ (v18 : Int) (s17 : Sg), Dd 368 [(.inr (.inr (some 682))), (.inl (s7 SCR ((x4 + 1)).toNat)), (.inl (s7 SCR ((x4 + 2)).toNat)), (.inl (s7 SCR ((x4 + 3)).toNat))] s7 (.inl (some (.inl v18)), s17) ∧ ((k + 3) ≤ 601024 ∧ (n + 18) ≤ 7293034) ∧ (∃ (v22 : Int) (s21 : Sg), Dd 244 [(.inr (.inr (some 682)))] s17 (.inl (some (.inl v22)), s21) ∧ (if v22 = v8 then (if v8 = 0 then C0_3182 x4 (some (.inl v8)) (some (.inl v18)) (s21 726 (0 : Int).toNat) (if v18 = 0 then 0 else 1) (k + 3) (n + 18) s21 o else C0_3188 x4 (some (.inl v8)) (some (.inl v18)) (k + 3) (n + 18) s21 o) else o = (.inl (some (.inl 0)), s21)))))) : C0_3104 x4 d5 d6 k n σ o := by
  show Gd 0 3104 [(some (.inr (.inr (some SCR)))), (some (.inr (.inr (some 0)))), (some (.inr (.inr (some 682)))), (some (.inr (.inr (some 726)))), (some (.inl x4)), d5, d6] [] σ k n o
  refine g_aload_n 3105 (show op 0 3104 = some (.aload_n 1, 1) by decide +kernel) rfl rfl ?_
  refine g_aload_n 3106 (show op 0 3105 = some (.aload_n 0, 1) by decide +kernel) rfl rfl ?_
  refine g_iload 3108 (show op 0 3106 = some (.iload 4, 2) by decide +kernel) rfl rfl ?_
  refine g_iconst 3109 (show op 0 3108 = some (.iconst 1, 1) by decide +kernel) rfl rfl ?_
  obtain ⟨g1, h⟩ := h
  refine g_iadd 3110 (show op 0 3109 = some (.iadd, 1) by decide +kernel) rfl g1 ?_
  obtain ⟨g2, h⟩ := h
  refine g_scr 3111 (show op 0 3110 = some (.iaload, 1) by decide +kernel) rfl g2 ?_
  refine g_aload_n 3112 (show op 0 3111 = some (.aload_n 0, 1) by decide +kernel) rfl rfl ?_
  refine g_iload 3114 (show op 0 3112 = some (.iload 4, 2) by decide +kernel) rfl rfl ?_
  refine g_iconst 3115 (show op 0 3114 = some (.iconst 2, 1) by decide +kernel) rfl rfl ?_
  obtain ⟨g3, h⟩ := h
  refine g_iadd 3116 (show op 0 3115 = some (.iadd, 1) by decide +kernel) rfl g3 ?_
  obtain ⟨g4, h⟩ := h
  refine g_scr 3117 (show op 0 3116 = some (.iaload, 1) by decide +kernel) rfl g4 ?_
  refine g_aload_n 3118 (show op 0 3117 = some (.aload_n 0, 1) by decide +kernel) rfl rfl ?_
  refine g_iload 3120 (show op 0 3118 = some (.iload 4, 2) by decide +kernel) rfl rfl ?_
  refine g_iconst 3121 (show op 0 3120 = some (.iconst 3, 1) by decide +kernel) rfl rfl ?_
  obtain ⟨g5, h⟩ := h
  refine g_iadd 3122 (show op 0 3121 = some (.iadd, 1) by decide +kernel) rfl g5 ?_
  obtain ⟨g6, h⟩ := h
  refine g_scr 3123 (show op 0 3122 = some (.iaload, 1) by decide +kernel) rfl g6 ?_
  refine g_aload_n 3124 (show op 0 3123 = some (.aload_n 3, 1) by decide +kernel) rfl rfl ?_
  obtain ⟨g10, h⟩ := h
  obtain ⟨v8, s7, hD9, h⟩ := h
  refine g_call 3127 [(.inl v8)] (show op 0 3124 = some (.invokestatic 332, 3) by decide +kernel) (call_stL (c := 3) (s := 18) (nj := 5) (j := 431) (t := []) (as := [(.inr (.inr (some 0))), (.inl (σ SCR ((x4 + 1)).toNat)), (.inl (σ SCR ((x4 + 2)).toNat)), (.inl (σ SCR ((x4 + 3)).toNat)), (.inr (.inr (some 726)))]) (by decide +kernel) rfl (by decide +kernel) g10 rfl rfl rfl rfl rfl) hD9 rfl ?_
  refine g_istore 3129 [(some (.inr (.inr (some SCR)))), (some (.inr (.inr (some 0)))), (some (.inr (.inr (some 682)))), (some (.inr (.inr (some 726)))), (some (.inl x4)), (some (.inl v8)), d6] (show op 0 3127 = some (.istore 5, 2) by decide +kernel) rfl rfl rfl ?_
  refine g_aload_n 3130 (show op 0 3129 = some (.aload_n 2, 1) by decide +kernel) rfl rfl ?_
  refine g_aload_n 3131 (show op 0 3130 = some (.aload_n 0, 1) by decide +kernel) rfl rfl ?_
  refine g_iload 3133 (show op 0 3131 = some (.iload 4, 2) by decide +kernel) rfl rfl ?_
  refine g_iconst 3134 (show op 0 3133 = some (.iconst 1, 1) by decide +kernel) rfl rfl ?_
  obtain ⟨g11, h⟩ := h
  refine g_iadd 3135 (show op 0 3134 = some (.iadd, 1) by decide +kernel) rfl g11 ?_
  obtain ⟨g12, h⟩ := h
  refine g_scr 3136 (show op 0 3135 = some (.iaload, 1) by decide +kernel) rfl g12 ?_
  refine g_aload_n 3137 (show op 0 3136 = some (.aload_n 0, 1) by decide +kernel) rfl rfl ?_
  refine g_iload 3139 (show op 0 3137 = some (.iload 4, 2) by decide +kernel) rfl rfl ?_
  refine g_iconst 3140 (show op 0 3139 = some (.iconst 2, 1) by decide +kernel) rfl rfl ?_
  obtain ⟨g13, h⟩ := h
  refine g_iadd 3141 (show op 0 3140 = some (.iadd, 1) by decide +kernel) rfl g13 ?_
  obtain ⟨g14, h⟩ := h
  refine g_scr 3142 (show op 0 3141 = some (.iaload, 1) by decide +kernel) rfl g14 ?_
  refine g_aload_n 3143 (show op 0 3142 = some (.aload_n 0, 1) by decide +kernel) rfl rfl ?_
  refine g_iload 3145 (show op 0 3143 = some (.iload 4, 2) by decide +kernel) rfl rfl ?_
  refine g_iconst 3146 (show op 0 3145 = some (.iconst 3, 1) by decide +kernel) rfl rfl ?_
  obtain ⟨g15, h⟩ := h
  refine g_iadd 3147 (show op 0 3146 = some (.iadd, 1) by decide +kernel) rfl g15 ?_
  obtain ⟨g16, h⟩ := h
  refine g_scr 3148 (show op 0 3147 = some (.iaload, 1) by decide +kernel) rfl g16 ?_
  obtain ⟨g20, h⟩ := h
  obtain ⟨v18, s17, hD19, h⟩ := h
  refine g_call 3151 [(.inl v18)] (show op 0 3148 = some (.invokevirtual 334, 3) by decide +kernel) (call_viL (c := 0) (s := 0) (nj := 4) (j := 368) (k9 := 21) (t := []) (as := [(.inr (.inr (some 682))), (.inl (s7 SCR ((x4 + 1)).toNat)), (.inl (s7 SCR ((x4 + 2)).toNat)), (.inl (s7 SCR ((x4 + 3)).toNat))]) (by decide +kernel) rfl (by decide +kernel) g20 rfl rfl rfl rfl rfl rfl (by decide +kernel) (by decide +kernel)) hD19 rfl ?_
  refine g_istore 3153 [(some (.inr (.inr (some SCR)))), (some (.inr (.inr (some 0)))), (some (.inr (.inr (some 682)))), (some (.inr (.inr (some 726)))), (some (.inl x4)), (some (.inl v8)), (some (.inl v18))] (show op 0 3151 = some (.istore 6, 2) by decide +kernel) rfl rfl rfl ?_
  refine g_aload_n 3154 (show op 0 3153 = some (.aload_n 2, 1) by decide +kernel) rfl rfl ?_
  obtain ⟨g24, h⟩ := h
  obtain ⟨v22, s21, hD23, h⟩ := h
  refine g_call 3157 [(.inl v22)] (show op 0 3154 = some (.invokevirtual 194, 3) by decide +kernel) (call_viL (c := 0) (s := 0) (nj := 1) (j := 244) (k9 := 21) (t := []) (as := [(.inr (.inr (some 682)))]) (by decide +kernel) rfl (by decide +kernel) g24 rfl rfl rfl rfl rfl rfl (by decide +kernel) (by decide +kernel)) hD23 rfl ?_
  refine g_iload 3159 (show op 0 3157 = some (.iload 5, 2) by decide +kernel) rfl rfl ?_
  by_cases hc25 : v22 = v8
  · rw [if_pos hc25] at h
    refine g_icmpT 3164 (show op 0 3159 = some (.if_icmp .eq 5, 3) by decide +kernel) rfl (decide_eq_true hc25) ?_
    refine g_iload 3166 (show op 0 3164 = some (.iload 5, 2) by decide +kernel) rfl rfl ?_
    by_cases hc26 : v8 = 0
    · rw [if_pos hc26] at h
      refine g_ifF 3169 3188 (show op 0 3166 = some (.ifCond .ne 22, 3) by decide +kernel) rfl rfl (decide_eq_false (fun h9 => h9 hc26)) ?_
      refine g_aload_n 3170 (show op 0 3169 = some (.aload_n 3, 1) by decide +kernel) rfl rfl ?_
      refine g_iconst 3171 (show op 0 3170 = some (.iconst 0, 1) by decide +kernel) rfl rfl ?_
      refine g_laload 3172 1 (show op 0 3171 = some (.laload, 1) by decide +kernel) rfl (by decide +kernel) (by decide) ?_
      refine g_iload 3174 (show op 0 3172 = some (.iload 6, 2) by decide +kernel) rfl rfl ?_
      by_cases hc27 : v18 = 0
      · refine g_ifT 3181 (show op 0 3174 = some (.ifCond .eq 7, 3) by decide +kernel) rfl (decide_eq_true hc27) ?_
        refine g_lconst 3182 (show op 0 3181 = some (.lconst 0, 1) by decide +kernel) rfl ?_
        have h9 := h; simp only [if_pos hc27] at h9; exact h9
      · refine g_ifF 3177 3181 (show op 0 3174 = some (.ifCond .eq 7, 3) by decide +kernel) rfl rfl (decide_eq_false hc27) ?_
        refine g_lconst 3178 (show op 0 3177 = some (.lconst 1, 1) by decide +kernel) rfl ?_
        refine g_goto 3182 (show op 0 3178 = some (.goto 4, 3) by decide +kernel) rfl ?_
        have h9 := h; simp only [if_neg hc27] at h9; exact h9
    · rw [if_neg hc26] at h
      refine g_ifT 3188 (show op 0 3166 = some (.ifCond .ne 22, 3) by decide +kernel) rfl (decide_eq_true hc26) ?_
      exact h
  · rw [if_neg hc25] at h
    refine g_icmpF 3162 3164 (show op 0 3159 = some (.if_icmp .eq 5, 3) by decide +kernel) rfl rfl (decide_eq_false hc25) ?_
    refine g_iconst 3163 (show op 0 3162 = some (.iconst 0, 1) by decide +kernel) rfl rfl ?_
    exact (g_zret (show op 0 3163 = some (.ireturn, 1) by decide +kernel) (by decide +kernel) (by decide) h)
theorem b0_3191 {x4 : Int} {d5 : Option AV} {d6 : Option AV} {k : Nat} {n : Nat} {σ : Sg} {o : Rs} (h : (-2147483648 ≤ (x4 + 1) ∧ (x4 + 1) ≤ 2147483647) ∧ (0 ≤ (x4 + 1) ∧ (x4 + 1) < σ (SCR + 1) 0) ∧ (-2147483648 ≤ (x4 + 2) ∧ (x4 + 2) ≤ 2147483647) ∧ (0 ≤ (x4 + 2) ∧ (x4 + 2) < σ (SCR + 1) 0) ∧ ((k + 3) ≤ 601024 ∧ (n + 18) ≤ 7293034) ∧ (∃ (v6 : Int) (s5 : Sg), Dd 432 [(.inr (.inr (some 0))), (.inl (σ SCR ((x4 + 1)).toNat)), (.inl (σ SCR ((x4 + 2)).toNat)), (.inr (.inr (some 726)))] σ (.inl (some (.inl v6)), s5) ∧ (-2147483648 ≤ (x4 + 1) ∧ (x4 + 1) ≤ 2147483647) ∧ (0 ≤ (x4 + 1) ∧ (x4 + 1) < s5 (SCR + 1) 0) ∧ (-2147483648 ≤ (x4 + 2) ∧ (x4 + 2) ≤ 2147483647) ∧ (0 ≤ (x4 + 2) ∧ (x4 + 2) < s5 (SCR + 1) 0) ∧ ((k + 3) ≤ 601024 ∧ (n + 18) ≤ 7293034) ∧ (∃ (v14 : Int) (s13 : Sg), Dd 374 [(.inr (.inr (some 682))), (.inl (s5 SCR ((x4 + 1)).toNat)), (.inl (s5 SCR ((x4 + 2)).toNat))] s5 (.inl (some (.inl v14)), s13) ∧ ((k + 3) ≤ 601024 ∧ (n + 18) ≤ 7293034) ∧ (∃ (v18 : Int) (s17 : Sg), Dd 244 [(.inr (.inr (some 682)))] s13 (.inl (some (.inl v18)), s17) ∧ (if v18 = v6 then (if v6 = 0 then (if (if v14 < (s17 726 (0 : Int).toNat) then 1 else if (s17 726 (0 : Int).toNat) = v14 then 0 else -1) = 0 then C0_3256 x4 (some (.inl v6)) (some (.inl v14)) (k + 3) (n + 18) s17 o else o = (.inl (some (.inl 0)), s17)) else C0_3256 x4 (some (.inl v6)) (some (.inl v14)) (k + 3) (n + 18) s17 o) else o = (.inl (some (.inl 0)), s17)))))) : C0_3191 x4 d5 d6 k n σ o := by
  show Gd 0 3191 [(some (.inr (.inr (some SCR)))), (some (.inr (.inr (some 0)))), (some (.inr (.inr (some 682)))), (some (.inr (.inr (some 726)))), (some (.inl x4)), d5, d6] [] σ k n o
  refine g_aload_n 3192 (show op 0 3191 = some (.aload_n 1, 1) by decide +kernel) rfl rfl ?_
  refine g_aload_n 3193 (show op 0 3192 = some (.aload_n 0, 1) by decide +kernel) rfl rfl ?_
  refine g_iload 3195 (show op 0 3193 = some (.iload 4, 2) by decide +kernel) rfl rfl ?_
  refine g_iconst 3196 (show op 0 3195 = some (.iconst 1, 1) by decide +kernel) rfl rfl ?_
  obtain ⟨g1, h⟩ := h
  refine g_iadd 3197 (show op 0 3196 = some (.iadd, 1) by decide +kernel) rfl g1 ?_
  obtain ⟨g2, h⟩ := h
  refine g_scr 3198 (show op 0 3197 = some (.iaload, 1) by decide +kernel) rfl g2 ?_
  refine g_aload_n 3199 (show op 0 3198 = some (.aload_n 0, 1) by decide +kernel) rfl rfl ?_
  refine g_iload 3201 (show op 0 3199 = some (.iload 4, 2) by decide +kernel) rfl rfl ?_
  refine g_iconst 3202 (show op 0 3201 = some (.iconst 2, 1) by decide +kernel) rfl rfl ?_
  obtain ⟨g3, h⟩ := h
  refine g_iadd 3203 (show op 0 3202 = some (.iadd, 1) by decide +kernel) rfl g3 ?_
  obtain ⟨g4, h⟩ := h
  refine g_scr 3204 (show op 0 3203 = some (.iaload, 1) by decide +kernel) rfl g4 ?_
  refine g_aload_n 3205 (show op 0 3204 = some (.aload_n 3, 1) by decide +kernel) rfl rfl ?_
  obtain ⟨g8, h⟩ := h
  obtain ⟨v6, s5, hD7, h⟩ := h
  refine g_call 3208 [(.inl v6)] (show op 0 3205 = some (.invokestatic 335, 3) by decide +kernel) (call_stL (c := 3) (s := 18) (nj := 4) (j := 432) (t := []) (as := [(.inr (.inr (some 0))), (.inl (σ SCR ((x4 + 1)).toNat)), (.inl (σ SCR ((x4 + 2)).toNat)), (.inr (.inr (some 726)))]) (by decide +kernel) rfl (by decide +kernel) g8 rfl rfl rfl rfl rfl) hD7 rfl ?_
  refine g_istore 3210 [(some (.inr (.inr (some SCR)))), (some (.inr (.inr (some 0)))), (some (.inr (.inr (some 682)))), (some (.inr (.inr (some 726)))), (some (.inl x4)), (some (.inl v6)), d6] (show op 0 3208 = some (.istore 5, 2) by decide +kernel) rfl rfl rfl ?_
  refine g_aload_n 3211 (show op 0 3210 = some (.aload_n 2, 1) by decide +kernel) rfl rfl ?_
  refine g_aload_n 3212 (show op 0 3211 = some (.aload_n 0, 1) by decide +kernel) rfl rfl ?_
  refine g_iload 3214 (show op 0 3212 = some (.iload 4, 2) by decide +kernel) rfl rfl ?_
  refine g_iconst 3215 (show op 0 3214 = some (.iconst 1, 1) by decide +kernel) rfl rfl ?_
  obtain ⟨g9, h⟩ := h
  refine g_iadd 3216 (show op 0 3215 = some (.iadd, 1) by decide +kernel) rfl g9 ?_
  obtain ⟨g10, h⟩ := h
  refine g_scr 3217 (show op 0 3216 = some (.iaload, 1) by decide +kernel) rfl g10 ?_
  refine g_aload_n 3218 (show op 0 3217 = some (.aload_n 0, 1) by decide +kernel) rfl rfl ?_
  refine g_iload 3220 (show op 0 3218 = some (.iload 4, 2) by decide +kernel) rfl rfl ?_
  refine g_iconst 3221 (show op 0 3220 = some (.iconst 2, 1) by decide +kernel) rfl rfl ?_
  obtain ⟨g11, h⟩ := h
  refine g_iadd 3222 (show op 0 3221 = some (.iadd, 1) by decide +kernel) rfl g11 ?_
  obtain ⟨g12, h⟩ := h
  refine g_scr 3223 (show op 0 3222 = some (.iaload, 1) by decide +kernel) rfl g12 ?_
  obtain ⟨g16, h⟩ := h
  obtain ⟨v14, s13, hD15, h⟩ := h
  refine g_call 3226 [(.inl v14)] (show op 0 3223 = some (.invokevirtual 337, 3) by decide +kernel) (call_viL (c := 0) (s := 0) (nj := 3) (j := 374) (k9 := 21) (t := []) (as := [(.inr (.inr (some 682))), (.inl (s5 SCR ((x4 + 1)).toNat)), (.inl (s5 SCR ((x4 + 2)).toNat))]) (by decide +kernel) rfl (by decide +kernel) g16 rfl rfl rfl rfl rfl rfl (by decide +kernel) (by decide +kernel)) hD15 rfl ?_
  refine g_istore 3228 [(some (.inr (.inr (some SCR)))), (some (.inr (.inr (some 0)))), (some (.inr (.inr (some 682)))), (some (.inr (.inr (some 726)))), (some (.inl x4)), (some (.inl v6)), (some (.inl v14))] (show op 0 3226 = some (.istore 6, 2) by decide +kernel) rfl rfl rfl ?_
  refine g_aload_n 3229 (show op 0 3228 = some (.aload_n 2, 1) by decide +kernel) rfl rfl ?_
  obtain ⟨g20, h⟩ := h
  obtain ⟨v18, s17, hD19, h⟩ := h
  refine g_call 3232 [(.inl v18)] (show op 0 3229 = some (.invokevirtual 194, 3) by decide +kernel) (call_viL (c := 0) (s := 0) (nj := 1) (j := 244) (k9 := 21) (t := []) (as := [(.inr (.inr (some 682)))]) (by decide +kernel) rfl (by decide +kernel) g20 rfl rfl rfl rfl rfl rfl (by decide +kernel) (by decide +kernel)) hD19 rfl ?_
  refine g_iload 3234 (show op 0 3232 = some (.iload 5, 2) by decide +kernel) rfl rfl ?_
  by_cases hc21 : v18 = v6
  · rw [if_pos hc21] at h
    refine g_icmpT 3239 (show op 0 3234 = some (.if_icmp .eq 5, 3) by decide +kernel) rfl (decide_eq_true hc21) ?_
    refine g_iload 3241 (show op 0 3239 = some (.iload 5, 2) by decide +kernel) rfl rfl ?_
    by_cases hc22 : v6 = 0
    · rw [if_pos hc22] at h
      refine g_ifF 3244 3256 (show op 0 3241 = some (.ifCond .ne 15, 3) by decide +kernel) rfl rfl (decide_eq_false (fun h9 => h9 hc22)) ?_
      refine g_aload_n 3245 (show op 0 3244 = some (.aload_n 3, 1) by decide +kernel) rfl rfl ?_
      refine g_iconst 3246 (show op 0 3245 = some (.iconst 0, 1) by decide +kernel) rfl rfl ?_
      refine g_laload 3247 1 (show op 0 3246 = some (.laload, 1) by decide +kernel) rfl (by decide +kernel) (by decide) ?_
      refine g_iload 3249 (show op 0 3247 = some (.iload 6, 2) by decide +kernel) rfl rfl ?_
      refine g_i2l 3250 (show op 0 3249 = some (.i2l, 1) by decide +kernel) rfl ?_
      refine g_lcmp 3251 (show op 0 3250 = some (.lcmp, 1) by decide +kernel) rfl ?_
      by_cases hc23 : (if v14 < (s17 726 (0 : Int).toNat) then 1 else if (s17 726 (0 : Int).toNat) = v14 then 0 else -1) = 0
      · rw [if_pos hc23] at h
        refine g_ifT 3256 (show op 0 3251 = some (.ifCond .eq 5, 3) by decide +kernel) rfl (decide_eq_true hc23) ?_
        exact h
      · rw [if_neg hc23] at h
        refine g_ifF 3254 3256 (show op 0 3251 = some (.ifCond .eq 5, 3) by decide +kernel) rfl rfl (decide_eq_false hc23) ?_
        refine g_iconst 3255 (show op 0 3254 = some (.iconst 0, 1) by decide +kernel) rfl rfl ?_
        exact (g_zret (show op 0 3255 = some (.ireturn, 1) by decide +kernel) (by decide +kernel) (by decide) h)
    · rw [if_neg hc22] at h
      refine g_ifT 3256 (show op 0 3241 = some (.ifCond .ne 15, 3) by decide +kernel) rfl (decide_eq_true hc22) ?_
      exact h
  · rw [if_neg hc21] at h
    refine g_icmpF 3237 3239 (show op 0 3234 = some (.if_icmp .eq 5, 3) by decide +kernel) rfl rfl (decide_eq_false hc21) ?_
    refine g_iconst 3238 (show op 0 3237 = some (.iconst 0, 1) by decide +kernel) rfl rfl ?_
    exact (g_zret (show op 0 3238 = some (.ireturn, 1) by decide +kernel) (by decide +kernel) (by decide) h)
theorem b0_3259 {x4 : Int} {d5 : Option AV} {d6 : Option AV} {k : Nat} {n : Nat} {σ : Sg} {o : Rs} (h : (-2147483648 ≤ (x4 + 1) ∧ (x4 + 1) ≤ 2147483647) ∧ (0 ≤ (x4 + 1) ∧ (x4 + 1) < σ (SCR + 1) 0) ∧ (-2147483648 ≤ (x4 + 2) ∧ (x4 + 2) ≤ 2147483647) ∧ (0 ≤ (x4 + 2) ∧ (x4 + 2) < σ (SCR + 1) 0) ∧ ((k + 3) ≤ 601024 ∧ (n + 18) ≤ 7293034) ∧ (∃ (v6 : Int) (s5 : Sg), Dd 433 [(.inr (.inr (some 0))), (.inl (σ SCR ((x4 + 1)).toNat)), (.inl (σ SCR ((x4 + 2)).toNat)), (.inr (.inr (some 726)))] σ (.inl (some (.inl v6)), s5) ∧ (-2147483648 ≤ (x4 + 1) ∧ (x4 + 1) ≤ 2147483647) ∧ (0 ≤ (x4 + 1) ∧ (x4 + 1) < s5 (SCR + 1) 0) ∧ (-2147483648 ≤ (x4 + 2) ∧ (x4 + 2) ≤ 2147483647) ∧ (0 ≤ (x4 + 2) ∧ (x4 + 2) < s5 (SCR + 1) 0) ∧ ((k + 3) ≤ 601024 ∧ (n + 18) ≤ 7293034) ∧ (∃ (v14 : Int) (s13 : Sg), Dd 375 [(.inr (.inr (some 682))), (.inl (s5 SCR ((x4 + 1)).toNat)), (.inl (s5 SCR ((x4 + 2)).toNat))] s5 (.inl (some (.inl v14)), s13) ∧ ((k + 3) ≤ 601024 ∧ (n + 18) ≤ 7293034) ∧ (∃ (v18 : Int) (s17 : Sg), Dd 244 [(.inr (.inr (some 682)))] s13 (.inl (some (.inl v18)), s17) ∧ (if v18 = v6 then (if v6 = 0 then (if (if v14 < (s17 726 (0 : Int).toNat) then 1 else if (s17 726 (0 : Int).toNat) = v14 then 0 else -1) = 0 then C0_3324 x4 (some (.inl v6)) (some (.inl v14)) (k + 3) (n + 18) s17 o else o = (.inl (some (.inl 0)), s17)) else C0_3324 x4 (some (.inl v6)) (some (.inl v14)) (k + 3) (n + 18) s17 o) else o = (.inl (some (.inl 0)), s17)))))) : C0_3259 x4 d5 d6 k n σ o := by
  show Gd 0 3259 [(some (.inr (.inr (some SCR)))), (some (.inr (.inr (some 0)))), (some (.inr (.inr (some 682)))), (some (.inr (.inr (some 726)))), (some (.inl x4)), d5, d6] [] σ k n o
  refine g_aload_n 3260 (show op 0 3259 = some (.aload_n 1, 1) by decide +kernel) rfl rfl ?_
  refine g_aload_n 3261 (show op 0 3260 = some (.aload_n 0, 1) by decide +kernel) rfl rfl ?_
  refine g_iload 3263 (show op 0 3261 = some (.iload 4, 2) by decide +kernel) rfl rfl ?_
  refine g_iconst 3264 (show op 0 3263 = some (.iconst 1, 1) by decide +kernel) rfl rfl ?_
  obtain ⟨g1, h⟩ := h
  refine g_iadd 3265 (show op 0 3264 = some (.iadd, 1) by decide +kernel) rfl g1 ?_
  obtain ⟨g2, h⟩ := h
  refine g_scr 3266 (show op 0 3265 = some (.iaload, 1) by decide +kernel) rfl g2 ?_
  refine g_aload_n 3267 (show op 0 3266 = some (.aload_n 0, 1) by decide +kernel) rfl rfl ?_
  refine g_iload 3269 (show op 0 3267 = some (.iload 4, 2) by decide +kernel) rfl rfl ?_
  refine g_iconst 3270 (show op 0 3269 = some (.iconst 2, 1) by decide +kernel) rfl rfl ?_
  obtain ⟨g3, h⟩ := h
  refine g_iadd 3271 (show op 0 3270 = some (.iadd, 1) by decide +kernel) rfl g3 ?_
  obtain ⟨g4, h⟩ := h
  refine g_scr 3272 (show op 0 3271 = some (.iaload, 1) by decide +kernel) rfl g4 ?_
  refine g_aload_n 3273 (show op 0 3272 = some (.aload_n 3, 1) by decide +kernel) rfl rfl ?_
  obtain ⟨g8, h⟩ := h
  obtain ⟨v6, s5, hD7, h⟩ := h
  refine g_call 3276 [(.inl v6)] (show op 0 3273 = some (.invokestatic 338, 3) by decide +kernel) (call_stL (c := 3) (s := 18) (nj := 4) (j := 433) (t := []) (as := [(.inr (.inr (some 0))), (.inl (σ SCR ((x4 + 1)).toNat)), (.inl (σ SCR ((x4 + 2)).toNat)), (.inr (.inr (some 726)))]) (by decide +kernel) rfl (by decide +kernel) g8 rfl rfl rfl rfl rfl) hD7 rfl ?_
  refine g_istore 3278 [(some (.inr (.inr (some SCR)))), (some (.inr (.inr (some 0)))), (some (.inr (.inr (some 682)))), (some (.inr (.inr (some 726)))), (some (.inl x4)), (some (.inl v6)), d6] (show op 0 3276 = some (.istore 5, 2) by decide +kernel) rfl rfl rfl ?_
  refine g_aload_n 3279 (show op 0 3278 = some (.aload_n 2, 1) by decide +kernel) rfl rfl ?_
  refine g_aload_n 3280 (show op 0 3279 = some (.aload_n 0, 1) by decide +kernel) rfl rfl ?_
  refine g_iload 3282 (show op 0 3280 = some (.iload 4, 2) by decide +kernel) rfl rfl ?_
  refine g_iconst 3283 (show op 0 3282 = some (.iconst 1, 1) by decide +kernel) rfl rfl ?_
  obtain ⟨g9, h⟩ := h
  refine g_iadd 3284 (show op 0 3283 = some (.iadd, 1) by decide +kernel) rfl g9 ?_
  obtain ⟨g10, h⟩ := h
  refine g_scr 3285 (show op 0 3284 = some (.iaload, 1) by decide +kernel) rfl g10 ?_
  refine g_aload_n 3286 (show op 0 3285 = some (.aload_n 0, 1) by decide +kernel) rfl rfl ?_
  refine g_iload 3288 (show op 0 3286 = some (.iload 4, 2) by decide +kernel) rfl rfl ?_
  refine g_iconst 3289 (show op 0 3288 = some (.iconst 2, 1) by decide +kernel) rfl rfl ?_
  obtain ⟨g11, h⟩ := h
  refine g_iadd 3290 (show op 0 3289 = some (.iadd, 1) by decide +kernel) rfl g11 ?_
  obtain ⟨g12, h⟩ := h
  refine g_scr 3291 (show op 0 3290 = some (.iaload, 1) by decide +kernel) rfl g12 ?_
  obtain ⟨g16, h⟩ := h
  obtain ⟨v14, s13, hD15, h⟩ := h
  refine g_call 3294 [(.inl v14)] (show op 0 3291 = some (.invokevirtual 340, 3) by decide +kernel) (call_viL (c := 0) (s := 0) (nj := 3) (j := 375) (k9 := 21) (t := []) (as := [(.inr (.inr (some 682))), (.inl (s5 SCR ((x4 + 1)).toNat)), (.inl (s5 SCR ((x4 + 2)).toNat))]) (by decide +kernel) rfl (by decide +kernel) g16 rfl rfl rfl rfl rfl rfl (by decide +kernel) (by decide +kernel)) hD15 rfl ?_
  refine g_istore 3296 [(some (.inr (.inr (some SCR)))), (some (.inr (.inr (some 0)))), (some (.inr (.inr (some 682)))), (some (.inr (.inr (some 726)))), (some (.inl x4)), (some (.inl v6)), (some (.inl v14))] (show op 0 3294 = some (.istore 6, 2) by decide +kernel) rfl rfl rfl ?_
  refine g_aload_n 3297 (show op 0 3296 = some (.aload_n 2, 1) by decide +kernel) rfl rfl ?_
  obtain ⟨g20, h⟩ := h
  obtain ⟨v18, s17, hD19, h⟩ := h
  refine g_call 3300 [(.inl v18)] (show op 0 3297 = some (.invokevirtual 194, 3) by decide +kernel) (call_viL (c := 0) (s := 0) (nj := 1) (j := 244) (k9 := 21) (t := []) (as := [(.inr (.inr (some 682)))]) (by decide +kernel) rfl (by decide +kernel) g20 rfl rfl rfl rfl rfl rfl (by decide +kernel) (by decide +kernel)) hD19 rfl ?_
  refine g_iload 3302 (show op 0 3300 = some (.iload 5, 2) by decide +kernel) rfl rfl ?_
  by_cases hc21 : v18 = v6
  · rw [if_pos hc21] at h
    refine g_icmpT 3307 (show op 0 3302 = some (.if_icmp .eq 5, 3) by decide +kernel) rfl (decide_eq_true hc21) ?_
    refine g_iload 3309 (show op 0 3307 = some (.iload 5, 2) by decide +kernel) rfl rfl ?_
    by_cases hc22 : v6 = 0
    · rw [if_pos hc22] at h
      refine g_ifF 3312 3324 (show op 0 3309 = some (.ifCond .ne 15, 3) by decide +kernel) rfl rfl (decide_eq_false (fun h9 => h9 hc22)) ?_
      refine g_aload_n 3313 (show op 0 3312 = some (.aload_n 3, 1) by decide +kernel) rfl rfl ?_
      refine g_iconst 3314 (show op 0 3313 = some (.iconst 0, 1) by decide +kernel) rfl rfl ?_
      refine g_laload 3315 1 (show op 0 3314 = some (.laload, 1) by decide +kernel) rfl (by decide +kernel) (by decide) ?_
      refine g_iload 3317 (show op 0 3315 = some (.iload 6, 2) by decide +kernel) rfl rfl ?_
      refine g_i2l 3318 (show op 0 3317 = some (.i2l, 1) by decide +kernel) rfl ?_
      refine g_lcmp 3319 (show op 0 3318 = some (.lcmp, 1) by decide +kernel) rfl ?_
      by_cases hc23 : (if v14 < (s17 726 (0 : Int).toNat) then 1 else if (s17 726 (0 : Int).toNat) = v14 then 0 else -1) = 0
      · rw [if_pos hc23] at h
        refine g_ifT 3324 (show op 0 3319 = some (.ifCond .eq 5, 3) by decide +kernel) rfl (decide_eq_true hc23) ?_
        exact h
      · rw [if_neg hc23] at h
        refine g_ifF 3322 3324 (show op 0 3319 = some (.ifCond .eq 5, 3) by decide +kernel) rfl rfl (decide_eq_false hc23) ?_
        refine g_iconst 3323 (show op 0 3322 = some (.iconst 0, 1) by decide +kernel) rfl rfl ?_
        exact (g_zret (show op 0 3323 = some (.ireturn, 1) by decide +kernel) (by decide +kernel) (by decide) h)
    · rw [if_neg hc22] at h
      refine g_ifT 3324 (show op 0 3309 = some (.ifCond .ne 15, 3) by decide +kernel) rfl (decide_eq_true hc22) ?_
      exact h
  · rw [if_neg hc21] at h
    refine g_icmpF 3305 3307 (show op 0 3302 = some (.if_icmp .eq 5, 3) by decide +kernel) rfl rfl (decide_eq_false hc21) ?_
    refine g_iconst 3306 (show op 0 3305 = some (.iconst 0, 1) by decide +kernel) rfl rfl ?_
    exact (g_zret (show op 0 3306 = some (.ireturn, 1) by decide +kernel) (by decide +kernel) (by decide) h)
theorem b0_3327 {x4 : Int} {d5 : Option AV} {d6 : Option AV} {k : Nat} {n : Nat} {σ : Sg} {o : Rs} (h : (-2147483648 ≤ (x4 + 1) ∧ (x4 + 1) ≤ 2147483647) ∧ (0 ≤ (x4 + 1) ∧ (x4 + 1) < σ (SCR + 1) 0) ∧ (-2147483648 ≤ (x4 + 2) ∧ (x4 + 2) ≤ 2147483647) ∧ (0 ≤ (x4 + 2) ∧ (x4 + 2) < σ (SCR + 1) 0) ∧ ((k + 2) ≤ 601024 ∧ (n + 12) ≤ 7293034) ∧ (∃ (v6 : Int) (s5 : Sg), Dd 434 [(.inr (.inr (some 0))), (.inl (σ SCR ((x4 + 1)).toNat)), (.inl (σ SCR ((x4 + 2)).toNat)), (.inr (.inr (some 726)))] σ (.inl (some (.inl v6)), s5) ∧ (-2147483648 ≤ (x4 + 1) ∧ (x4 + 1) ≤ 2147483647) ∧ (0 ≤ (x4 + 1) ∧ (x4 + 1) < s5 (SCR + 1) 0) ∧ (-2147483648 ≤ (x4 + 2) ∧ (x4 + 2) ≤ 2147483647) ∧ (0 ≤ (x4 + 2) ∧ (x4 + 2) < s5 (SCR + 1) 0) ∧ ((k + 2) ≤ 601024 ∧ (n + 12) ≤ 7293034) ∧ (∃ (v14 : Int) (s13 : Sg), Dd 376 [(.inr (.inr (some 682))), (.inl (s5 SCR ((x4 + 1)).toNat)), (.inl (s5 SCR ((x4 + 2)).toNat))] s5 (.inl (some (.inl v14)), s13) ∧ ((k + 2) ≤ 601024 ∧ (n + 12) ≤ 7293034) ∧ (∃ (v18 : Int) (s17 : Sg), Dd 244 [(.inr (.inr (some 682)))] s13 (.inl (some (.inl v18)), s17) ∧ (if v18 = v6 then (if v6 = 0 then (if (if v14 < (s17 726 (0 : Int).toNat) then 1 else if (s17 726 (0 : Int).toNat) = v14 then 0 else -1) = 0 then C0_3392 x4 (some (.inl v6)) (some (.inl v14)) (k + 2) (n + 12) s17 o else o = (.inl (some (.inl 0)), s17)) else C0_3392 x4 (some (.inl v6)) (some (.inl v14)) (k + 2) (n + 12) s17 o) else o = (.inl (some (.inl 0)), s17)))))) : C0_3327 x4 d5 d6 k n σ o := by
  show Gd 0 3327 [(some (.inr (.inr (some SCR)))), (some (.inr (.inr (some 0)))), (some (.inr (.inr (some 682)))), (some (.inr (.inr (some 726)))), (some (.inl x4)), d5, d6] [] σ k n o
  refine g_aload_n 3328 (show op 0 3327 = some (.aload_n 1, 1) by decide +kernel) rfl rfl ?_
  refine g_aload_n 3329 (show op 0 3328 = some (.aload_n 0, 1) by decide +kernel) rfl rfl ?_
  refine g_iload 3331 (show op 0 3329 = some (.iload 4, 2) by decide +kernel) rfl rfl ?_
  refine g_iconst 3332 (show op 0 3331 = some (.iconst 1, 1) by decide +kernel) rfl rfl ?_
  obtain ⟨g1, h⟩ := h
  refine g_iadd 3333 (show op 0 3332 = some (.iadd, 1) by decide +kernel) rfl g1 ?_
  obtain ⟨g2, h⟩ := h
  refine g_scr 3334 (show op 0 3333 = some (.iaload, 1) by decide +kernel) rfl g2 ?_
  refine g_aload_n 3335 (show op 0 3334 = some (.aload_n 0, 1) by decide +kernel) rfl rfl ?_
  refine g_iload 3337 (show op 0 3335 = some (.iload 4, 2) by decide +kernel) rfl rfl ?_
  refine g_iconst 3338 (show op 0 3337 = some (.iconst 2, 1) by decide +kernel) rfl rfl ?_
  obtain ⟨g3, h⟩ := h
  refine g_iadd 3339 (show op 0 3338 = some (.iadd, 1) by decide +kernel) rfl g3 ?_
  obtain ⟨g4, h⟩ := h
  refine g_scr 3340 (show op 0 3339 = some (.iaload, 1) by decide +kernel) rfl g4 ?_
  refine g_aload_n 3341 (show op 0 3340 = some (.aload_n 3, 1) by decide +kernel) rfl rfl ?_
  obtain ⟨g8, h⟩ := h
  obtain ⟨v6, s5, hD7, h⟩ := h
  refine g_call 3344 [(.inl v6)] (show op 0 3341 = some (.invokestatic 341, 3) by decide +kernel) (call_stL (c := 2) (s := 12) (nj := 4) (j := 434) (t := []) (as := [(.inr (.inr (some 0))), (.inl (σ SCR ((x4 + 1)).toNat)), (.inl (σ SCR ((x4 + 2)).toNat)), (.inr (.inr (some 726)))]) (by decide +kernel) rfl (by decide +kernel) g8 rfl rfl rfl rfl rfl) hD7 rfl ?_
  refine g_istore 3346 [(some (.inr (.inr (some SCR)))), (some (.inr (.inr (some 0)))), (some (.inr (.inr (some 682)))), (some (.inr (.inr (some 726)))), (some (.inl x4)), (some (.inl v6)), d6] (show op 0 3344 = some (.istore 5, 2) by decide +kernel) rfl rfl rfl ?_
  refine g_aload_n 3347 (show op 0 3346 = some (.aload_n 2, 1) by decide +kernel) rfl rfl ?_
  refine g_aload_n 3348 (show op 0 3347 = some (.aload_n 0, 1) by decide +kernel) rfl rfl ?_
  refine g_iload 3350 (show op 0 3348 = some (.iload 4, 2) by decide +kernel) rfl rfl ?_
  refine g_iconst 3351 (show op 0 3350 = some (.iconst 1, 1) by decide +kernel) rfl rfl ?_
  obtain ⟨g9, h⟩ := h
  refine g_iadd 3352 (show op 0 3351 = some (.iadd, 1) by decide +kernel) rfl g9 ?_
  obtain ⟨g10, h⟩ := h
  refine g_scr 3353 (show op 0 3352 = some (.iaload, 1) by decide +kernel) rfl g10 ?_
  refine g_aload_n 3354 (show op 0 3353 = some (.aload_n 0, 1) by decide +kernel) rfl rfl ?_
  refine g_iload 3356 (show op 0 3354 = some (.iload 4, 2) by decide +kernel) rfl rfl ?_
  refine g_iconst 3357 (show op 0 3356 = some (.iconst 2, 1) by decide +kernel) rfl rfl ?_
  obtain ⟨g11, h⟩ := h
  refine g_iadd 3358 (show op 0 3357 = some (.iadd, 1) by decide +kernel) rfl g11 ?_
  obtain ⟨g12, h⟩ := h
  refine g_scr 3359 (show op 0 3358 = some (.iaload, 1) by decide +kernel) rfl g12 ?_
  obtain ⟨g16, h⟩ := h
  obtain ⟨v14, s13, hD15, h⟩ := h
  refine g_call 3362 [(.inl v14)] (show op 0 3359 = some (.invokevirtual 343, 3) by decide +kernel) (call_viL (c := 0) (s := 0) (nj := 3) (j := 376) (k9 := 21) (t := []) (as := [(.inr (.inr (some 682))), (.inl (s5 SCR ((x4 + 1)).toNat)), (.inl (s5 SCR ((x4 + 2)).toNat))]) (by decide +kernel) rfl (by decide +kernel) g16 rfl rfl rfl rfl rfl rfl (by decide +kernel) (by decide +kernel)) hD15 rfl ?_
  refine g_istore 3364 [(some (.inr (.inr (some SCR)))), (some (.inr (.inr (some 0)))), (some (.inr (.inr (some 682)))), (some (.inr (.inr (some 726)))), (some (.inl x4)), (some (.inl v6)), (some (.inl v14))] (show op 0 3362 = some (.istore 6, 2) by decide +kernel) rfl rfl rfl ?_
  refine g_aload_n 3365 (show op 0 3364 = some (.aload_n 2, 1) by decide +kernel) rfl rfl ?_
  obtain ⟨g20, h⟩ := h
  obtain ⟨v18, s17, hD19, h⟩ := h
  refine g_call 3368 [(.inl v18)] (show op 0 3365 = some (.invokevirtual 194, 3) by decide +kernel) (call_viL (c := 0) (s := 0) (nj := 1) (j := 244) (k9 := 21) (t := []) (as := [(.inr (.inr (some 682)))]) (by decide +kernel) rfl (by decide +kernel) g20 rfl rfl rfl rfl rfl rfl (by decide +kernel) (by decide +kernel)) hD19 rfl ?_
  refine g_iload 3370 (show op 0 3368 = some (.iload 5, 2) by decide +kernel) rfl rfl ?_
  by_cases hc21 : v18 = v6
  · rw [if_pos hc21] at h
    refine g_icmpT 3375 (show op 0 3370 = some (.if_icmp .eq 5, 3) by decide +kernel) rfl (decide_eq_true hc21) ?_
    refine g_iload 3377 (show op 0 3375 = some (.iload 5, 2) by decide +kernel) rfl rfl ?_
    by_cases hc22 : v6 = 0
    · rw [if_pos hc22] at h
      refine g_ifF 3380 3392 (show op 0 3377 = some (.ifCond .ne 15, 3) by decide +kernel) rfl rfl (decide_eq_false (fun h9 => h9 hc22)) ?_
      refine g_aload_n 3381 (show op 0 3380 = some (.aload_n 3, 1) by decide +kernel) rfl rfl ?_
      refine g_iconst 3382 (show op 0 3381 = some (.iconst 0, 1) by decide +kernel) rfl rfl ?_
      refine g_laload 3383 1 (show op 0 3382 = some (.laload, 1) by decide +kernel) rfl (by decide +kernel) (by decide) ?_
      refine g_iload 3385 (show op 0 3383 = some (.iload 6, 2) by decide +kernel) rfl rfl ?_
      refine g_i2l 3386 (show op 0 3385 = some (.i2l, 1) by decide +kernel) rfl ?_
      refine g_lcmp 3387 (show op 0 3386 = some (.lcmp, 1) by decide +kernel) rfl ?_
      by_cases hc23 : (if v14 < (s17 726 (0 : Int).toNat) then 1 else if (s17 726 (0 : Int).toNat) = v14 then 0 else -1) = 0
      · rw [if_pos hc23] at h
        refine g_ifT 3392 (show op 0 3387 = some (.ifCond .eq 5, 3) by decide +kernel) rfl (decide_eq_true hc23) ?_
        exact h
      · rw [if_neg hc23] at h
        refine g_ifF 3390 3392 (show op 0 3387 = some (.ifCond .eq 5, 3) by decide +kernel) rfl rfl (decide_eq_false hc23) ?_
        refine g_iconst 3391 (show op 0 3390 = some (.iconst 0, 1) by decide +kernel) rfl rfl ?_
        exact (g_zret (show op 0 3391 = some (.ireturn, 1) by decide +kernel) (by decide +kernel) (by decide) h)
    · rw [if_neg hc22] at h
      refine g_ifT 3392 (show op 0 3377 = some (.ifCond .ne 15, 3) by decide +kernel) rfl (decide_eq_true hc22) ?_
      exact h
  · rw [if_neg hc21] at h
    refine g_icmpF 3373 3375 (show op 0 3370 = some (.if_icmp .eq 5, 3) by decide +kernel) rfl rfl (decide_eq_false hc21) ?_
    refine g_iconst 3374 (show op 0 3373 = some (.iconst 0, 1) by decide +kernel) rfl rfl ?_
    exact (g_zret (show op 0 3374 = some (.ireturn, 1) by decide +kernel) (by decide +kernel) (by decide) h)
theorem b0_3395 {x4 : Int} {d5 : Option AV} {d6 : Option AV} {k : Nat} {n : Nat} {σ : Sg} {o : Rs} (h : (-2147483648 ≤ (x4 + 1) ∧ (x4 + 1) ≤ 2147483647) ∧ (0 ≤ (x4 + 1) ∧ (x4 + 1) < σ (SCR + 1) 0) ∧ (-2147483648 ≤ (x4 + 2) ∧ (x4 + 2) ≤ 2147483647) ∧ (0 ≤ (x4 + 2) ∧ (x4 + 2) < σ (SCR + 1) 0) ∧ ((k + 3) ≤ 601024 ∧ (n + 18) ≤ 7293034) ∧ (∃ (v6 : Int) (s5 : Sg), Dd 435 [(.inr (.inr (some 0))), (.inl (σ SCR ((x4 + 1)).toNat)), (.inl (σ SCR ((x4 + 2)).toNat)), (.inr (.inr (some 726)))] σ (.inl (some (.inl v6)), s5) ∧ (-2147483648 ≤ (x4 + 1) ∧ (x4 + 1) ≤ 2147483647) ∧ (0 ≤ (x4 + 1) ∧ (x4 + 1) < s5 (SCR + 1) 0) ∧ (-2147483648 ≤ (x4 + 2) ∧ (x4 + 2) ≤ 2147483647) ∧ (0 ≤ (x4 + 2) ∧ (x4 + 2) < s5 (SCR + 1) 0) ∧ ((k + 3) ≤ 601024 ∧ (n + 18) ≤ 7293034) ∧ (∃ (v14 : Int) (s13 : Sg), Dd 378 [(.inr (.inr (some 682))), (.inl (s5 SCR ((x4 + 1)).toNat)), (.inl (s5 SCR ((x4 + 2)).toNat))] s5 (.inl (some (.inl v14)), s13) ∧ ((k + 3) ≤ 601024 ∧ (n + 18) ≤ 7293034) ∧ (∃ (v18 : Int) (s17 : Sg), Dd 244 [(.inr (.inr (some 682)))] s13 (.inl (some (.inl v18)), s17) ∧ (if v18 = v6 then (if v6 = 0 then (if (if v14 < (s17 726 (0 : Int).toNat) then 1 else if (s17 726 (0 : Int).toNat) = v14 then 0 else -1) = 0 then C0_3460 x4 (some (.inl v6)) (some (.inl v14)) (k + 3) (n + 18) s17 o else o = (.inl (some (.inl 0)), s17)) else C0_3460 x4 (some (.inl v6)) (some (.inl v14)) (k + 3) (n + 18) s17 o) else o = (.inl (some (.inl 0)), s17)))))) : C0_3395 x4 d5 d6 k n σ o := by
  show Gd 0 3395 [(some (.inr (.inr (some SCR)))), (some (.inr (.inr (some 0)))), (some (.inr (.inr (some 682)))), (some (.inr (.inr (some 726)))), (some (.inl x4)), d5, d6] [] σ k n o
  refine g_aload_n 3396 (show op 0 3395 = some (.aload_n 1, 1) by decide +kernel) rfl rfl ?_
  refine g_aload_n 3397 (show op 0 3396 = some (.aload_n 0, 1) by decide +kernel) rfl rfl ?_
  refine g_iload 3399 (show op 0 3397 = some (.iload 4, 2) by decide +kernel) rfl rfl ?_
  refine g_iconst 3400 (show op 0 3399 = some (.iconst 1, 1) by decide +kernel) rfl rfl ?_
  obtain ⟨g1, h⟩ := h
  refine g_iadd 3401 (show op 0 3400 = some (.iadd, 1) by decide +kernel) rfl g1 ?_
  obtain ⟨g2, h⟩ := h
  refine g_scr 3402 (show op 0 3401 = some (.iaload, 1) by decide +kernel) rfl g2 ?_
  refine g_aload_n 3403 (show op 0 3402 = some (.aload_n 0, 1) by decide +kernel) rfl rfl ?_
  refine g_iload 3405 (show op 0 3403 = some (.iload 4, 2) by decide +kernel) rfl rfl ?_
  refine g_iconst 3406 (show op 0 3405 = some (.iconst 2, 1) by decide +kernel) rfl rfl ?_
  obtain ⟨g3, h⟩ := h
  refine g_iadd 3407 (show op 0 3406 = some (.iadd, 1) by decide +kernel) rfl g3 ?_
  obtain ⟨g4, h⟩ := h
  refine g_scr 3408 (show op 0 3407 = some (.iaload, 1) by decide +kernel) rfl g4 ?_
  refine g_aload_n 3409 (show op 0 3408 = some (.aload_n 3, 1) by decide +kernel) rfl rfl ?_
  obtain ⟨g8, h⟩ := h
  obtain ⟨v6, s5, hD7, h⟩ := h
  refine g_call 3412 [(.inl v6)] (show op 0 3409 = some (.invokestatic 344, 3) by decide +kernel) (call_stL (c := 3) (s := 18) (nj := 4) (j := 435) (t := []) (as := [(.inr (.inr (some 0))), (.inl (σ SCR ((x4 + 1)).toNat)), (.inl (σ SCR ((x4 + 2)).toNat)), (.inr (.inr (some 726)))]) (by decide +kernel) rfl (by decide +kernel) g8 rfl rfl rfl rfl rfl) hD7 rfl ?_
  refine g_istore 3414 [(some (.inr (.inr (some SCR)))), (some (.inr (.inr (some 0)))), (some (.inr (.inr (some 682)))), (some (.inr (.inr (some 726)))), (some (.inl x4)), (some (.inl v6)), d6] (show op 0 3412 = some (.istore 5, 2) by decide +kernel) rfl rfl rfl ?_
  refine g_aload_n 3415 (show op 0 3414 = some (.aload_n 2, 1) by decide +kernel) rfl rfl ?_
  refine g_aload_n 3416 (show op 0 3415 = some (.aload_n 0, 1) by decide +kernel) rfl rfl ?_
  refine g_iload 3418 (show op 0 3416 = some (.iload 4, 2) by decide +kernel) rfl rfl ?_
  refine g_iconst 3419 (show op 0 3418 = some (.iconst 1, 1) by decide +kernel) rfl rfl ?_
  obtain ⟨g9, h⟩ := h
  refine g_iadd 3420 (show op 0 3419 = some (.iadd, 1) by decide +kernel) rfl g9 ?_
  obtain ⟨g10, h⟩ := h
  refine g_scr 3421 (show op 0 3420 = some (.iaload, 1) by decide +kernel) rfl g10 ?_
  refine g_aload_n 3422 (show op 0 3421 = some (.aload_n 0, 1) by decide +kernel) rfl rfl ?_
  refine g_iload 3424 (show op 0 3422 = some (.iload 4, 2) by decide +kernel) rfl rfl ?_
  refine g_iconst 3425 (show op 0 3424 = some (.iconst 2, 1) by decide +kernel) rfl rfl ?_
  obtain ⟨g11, h⟩ := h
  refine g_iadd 3426 (show op 0 3425 = some (.iadd, 1) by decide +kernel) rfl g11 ?_
  obtain ⟨g12, h⟩ := h
  refine g_scr 3427 (show op 0 3426 = some (.iaload, 1) by decide +kernel) rfl g12 ?_
  obtain ⟨g16, h⟩ := h
  obtain ⟨v14, s13, hD15, h⟩ := h
  refine g_call 3430 [(.inl v14)] (show op 0 3427 = some (.invokevirtual 346, 3) by decide +kernel) (call_viL (c := 0) (s := 0) (nj := 3) (j := 378) (k9 := 21) (t := []) (as := [(.inr (.inr (some 682))), (.inl (s5 SCR ((x4 + 1)).toNat)), (.inl (s5 SCR ((x4 + 2)).toNat))]) (by decide +kernel) rfl (by decide +kernel) g16 rfl rfl rfl rfl rfl rfl (by decide +kernel) (by decide +kernel)) hD15 rfl ?_
  refine g_istore 3432 [(some (.inr (.inr (some SCR)))), (some (.inr (.inr (some 0)))), (some (.inr (.inr (some 682)))), (some (.inr (.inr (some 726)))), (some (.inl x4)), (some (.inl v6)), (some (.inl v14))] (show op 0 3430 = some (.istore 6, 2) by decide +kernel) rfl rfl rfl ?_
  refine g_aload_n 3433 (show op 0 3432 = some (.aload_n 2, 1) by decide +kernel) rfl rfl ?_
  obtain ⟨g20, h⟩ := h
  obtain ⟨v18, s17, hD19, h⟩ := h
  refine g_call 3436 [(.inl v18)] (show op 0 3433 = some (.invokevirtual 194, 3) by decide +kernel) (call_viL (c := 0) (s := 0) (nj := 1) (j := 244) (k9 := 21) (t := []) (as := [(.inr (.inr (some 682)))]) (by decide +kernel) rfl (by decide +kernel) g20 rfl rfl rfl rfl rfl rfl (by decide +kernel) (by decide +kernel)) hD19 rfl ?_
  refine g_iload 3438 (show op 0 3436 = some (.iload 5, 2) by decide +kernel) rfl rfl ?_
  by_cases hc21 : v18 = v6
  · rw [if_pos hc21] at h
    refine g_icmpT 3443 (show op 0 3438 = some (.if_icmp .eq 5, 3) by decide +kernel) rfl (decide_eq_true hc21) ?_
    refine g_iload 3445 (show op 0 3443 = some (.iload 5, 2) by decide +kernel) rfl rfl ?_
    by_cases hc22 : v6 = 0
    · rw [if_pos hc22] at h
      refine g_ifF 3448 3460 (show op 0 3445 = some (.ifCond .ne 15, 3) by decide +kernel) rfl rfl (decide_eq_false (fun h9 => h9 hc22)) ?_
      refine g_aload_n 3449 (show op 0 3448 = some (.aload_n 3, 1) by decide +kernel) rfl rfl ?_
      refine g_iconst 3450 (show op 0 3449 = some (.iconst 0, 1) by decide +kernel) rfl rfl ?_
      refine g_laload 3451 1 (show op 0 3450 = some (.laload, 1) by decide +kernel) rfl (by decide +kernel) (by decide) ?_
      refine g_iload 3453 (show op 0 3451 = some (.iload 6, 2) by decide +kernel) rfl rfl ?_
      refine g_i2l 3454 (show op 0 3453 = some (.i2l, 1) by decide +kernel) rfl ?_
      refine g_lcmp 3455 (show op 0 3454 = some (.lcmp, 1) by decide +kernel) rfl ?_
      by_cases hc23 : (if v14 < (s17 726 (0 : Int).toNat) then 1 else if (s17 726 (0 : Int).toNat) = v14 then 0 else -1) = 0
      · rw [if_pos hc23] at h
        refine g_ifT 3460 (show op 0 3455 = some (.ifCond .eq 5, 3) by decide +kernel) rfl (decide_eq_true hc23) ?_
        exact h
      · rw [if_neg hc23] at h
        refine g_ifF 3458 3460 (show op 0 3455 = some (.ifCond .eq 5, 3) by decide +kernel) rfl rfl (decide_eq_false hc23) ?_
        refine g_iconst 3459 (show op 0 3458 = some (.iconst 0, 1) by decide +kernel) rfl rfl ?_
        exact (g_zret (show op 0 3459 = some (.ireturn, 1) by decide +kernel) (by decide +kernel) (by decide) h)
    · rw [if_neg hc22] at h
      refine g_ifT 3460 (show op 0 3445 = some (.ifCond .ne 15, 3) by decide +kernel) rfl (decide_eq_true hc22) ?_
      exact h
  · rw [if_neg hc21] at h
    refine g_icmpF 3441 3443 (show op 0 3438 = some (.if_icmp .eq 5, 3) by decide +kernel) rfl rfl (decide_eq_false hc21) ?_
    refine g_iconst 3442 (show op 0 3441 = some (.iconst 0, 1) by decide +kernel) rfl rfl ?_
    exact (g_zret (show op 0 3442 = some (.ireturn, 1) by decide +kernel) (by decide +kernel) (by decide) h)
theorem b0_3463 {x4 : Int} {d5 : Option AV} {d6 : Option AV} {k : Nat} {n : Nat} {σ : Sg} {o : Rs} (h : (-2147483648 ≤ (x4 + 1) ∧ (x4 + 1) ≤ 2147483647) ∧ (0 ≤ (x4 + 1) ∧ (x4 + 1) < σ (SCR + 1) 0) ∧ ((k + 1) ≤ 601024 ∧ (n + 6) ≤ 7293034) ∧ (∃ (v4 : Int) (s3 : Sg), Dd 436 [(.inr (.inr (some 0))), (.inl (σ SCR ((x4 + 1)).toNat)), (.inr (.inr (some 726)))] σ (.inl (some (.inl v4)), s3) ∧ (-2147483648 ≤ (x4 + 1) ∧ (x4 + 1) ≤ 2147483647) ∧ (0 ≤ (x4 + 1) ∧ (x4 + 1) < s3 (SCR + 1) 0) ∧ ((k + 1) ≤ 601024 ∧ (n + 6) ≤ 7293034) ∧ (∃ (v10 : Int) (s9 : Sg), Dd 379 [(.inr (.inr (some 682))), (.inl (s3 SCR ((x4 + 1)).toNat))] s3 (.inl (some (.inl v10)), s9) ∧ ((k + 1) ≤ 601024 ∧ (n + 6) ≤ 7293034) ∧ (∃ (v14 : Int) (s13 : Sg), Dd 244 [(.inr (.inr (some 682)))] s9 (.inl (some (.inl v14)), s13) ∧ (if v14 = v4 then (if v4 = 0 then (if (if v10 < (s13 726 (0 : Int).toNat) then 1 else if (s13 726 (0 : Int).toNat) = v10 then 0 else -1) = 0 then C0_3516 x4 (some (.inl v4)) (some (.inl v10)) (k + 1) (n + 6) s13 o else o = (.inl (some (.inl 0)), s13)) else C0_3516 x4 (some (.inl v4)) (some (.inl v10)) (k + 1) (n + 6) s13 o) else o = (.inl (some (.inl 0)), s13)))))) : C0_3463 x4 d5 d6 k n σ o := by
  show Gd 0 3463 [(some (.inr (.inr (some SCR)))), (some (.inr (.inr (some 0)))), (some (.inr (.inr (some 682)))), (some (.inr (.inr (some 726)))), (some (.inl x4)), d5, d6] [] σ k n o
  refine g_aload_n 3464 (show op 0 3463 = some (.aload_n 1, 1) by decide +kernel) rfl rfl ?_
  refine g_aload_n 3465 (show op 0 3464 = some (.aload_n 0, 1) by decide +kernel) rfl rfl ?_
  refine g_iload 3467 (show op 0 3465 = some (.iload 4, 2) by decide +kernel) rfl rfl ?_
  refine g_iconst 3468 (show op 0 3467 = some (.iconst 1, 1) by decide +kernel) rfl rfl ?_
  obtain ⟨g1, h⟩ := h
  refine g_iadd 3469 (show op 0 3468 = some (.iadd, 1) by decide +kernel) rfl g1 ?_
  obtain ⟨g2, h⟩ := h
  refine g_scr 3470 (show op 0 3469 = some (.iaload, 1) by decide +kernel) rfl g2 ?_
  refine g_aload_n 3471 (show op 0 3470 = some (.aload_n 3, 1) by decide +kernel) rfl rfl ?_
  obtain ⟨g6, h⟩ := h
  obtain ⟨v4, s3, hD5, h⟩ := h
  refine g_call 3474 [(.inl v4)] (show op 0 3471 = some (.invokestatic 347, 3) by decide +kernel) (call_stL (c := 1) (s := 6) (nj := 3) (j := 436) (t := []) (as := [(.inr (.inr (some 0))), (.inl (σ SCR ((x4 + 1)).toNat)), (.inr (.inr (some 726)))]) (by decide +kernel) rfl (by decide +kernel) g6 rfl rfl rfl rfl rfl) hD5 rfl ?_
  refine g_istore 3476 [(some (.inr (.inr (some SCR)))), (some (.inr (.inr (some 0)))), (some (.inr (.inr (some 682)))), (some (.inr (.inr (some 726)))), (some (.inl x4)), (some (.inl v4)), d6] (show op 0 3474 = some (.istore 5, 2) by decide +kernel) rfl rfl rfl ?_
  refine g_aload_n 3477 (show op 0 3476 = some (.aload_n 2, 1) by decide +kernel) rfl rfl ?_
  refine g_aload_n 3478 (show op 0 3477 = some (.aload_n 0, 1) by decide +kernel) rfl rfl ?_
  refine g_iload 3480 (show op 0 3478 = some (.iload 4, 2) by decide +kernel) rfl rfl ?_
  refine g_iconst 3481 (show op 0 3480 = some (.iconst 1, 1) by decide +kernel) rfl rfl ?_
  obtain ⟨g7, h⟩ := h
  refine g_iadd 3482 (show op 0 3481 = some (.iadd, 1) by decide +kernel) rfl g7 ?_
  obtain ⟨g8, h⟩ := h
  refine g_scr 3483 (show op 0 3482 = some (.iaload, 1) by decide +kernel) rfl g8 ?_
  obtain ⟨g12, h⟩ := h
  obtain ⟨v10, s9, hD11, h⟩ := h
  refine g_call 3486 [(.inl v10)] (show op 0 3483 = some (.invokevirtual 349, 3) by decide +kernel) (call_viL (c := 0) (s := 0) (nj := 2) (j := 379) (k9 := 21) (t := []) (as := [(.inr (.inr (some 682))), (.inl (s3 SCR ((x4 + 1)).toNat))]) (by decide +kernel) rfl (by decide +kernel) g12 rfl rfl rfl rfl rfl rfl (by decide +kernel) (by decide +kernel)) hD11 rfl ?_
  refine g_istore 3488 [(some (.inr (.inr (some SCR)))), (some (.inr (.inr (some 0)))), (some (.inr (.inr (some 682)))), (some (.inr (.inr (some 726)))), (some (.inl x4)), (some (.inl v4)), (some (.inl v10))] (show op 0 3486 = some (.istore 6, 2) by decide +kernel) rfl rfl rfl ?_
  refine g_aload_n 3489 (show op 0 3488 = some (.aload_n 2, 1) by decide +kernel) rfl rfl ?_
  obtain ⟨g16, h⟩ := h
  obtain ⟨v14, s13, hD15, h⟩ := h
  refine g_call 3492 [(.inl v14)] (show op 0 3489 = some (.invokevirtual 194, 3) by decide +kernel) (call_viL (c := 0) (s := 0) (nj := 1) (j := 244) (k9 := 21) (t := []) (as := [(.inr (.inr (some 682)))]) (by decide +kernel) rfl (by decide +kernel) g16 rfl rfl rfl rfl rfl rfl (by decide +kernel) (by decide +kernel)) hD15 rfl ?_
  refine g_iload 3494 (show op 0 3492 = some (.iload 5, 2) by decide +kernel) rfl rfl ?_
  by_cases hc17 : v14 = v4
  · rw [if_pos hc17] at h
    refine g_icmpT 3499 (show op 0 3494 = some (.if_icmp .eq 5, 3) by decide +kernel) rfl (decide_eq_true hc17) ?_
    refine g_iload 3501 (show op 0 3499 = some (.iload 5, 2) by decide +kernel) rfl rfl ?_
    by_cases hc18 : v4 = 0
    · rw [if_pos hc18] at h
      refine g_ifF 3504 3516 (show op 0 3501 = some (.ifCond .ne 15, 3) by decide +kernel) rfl rfl (decide_eq_false (fun h9 => h9 hc18)) ?_
      refine g_aload_n 3505 (show op 0 3504 = some (.aload_n 3, 1) by decide +kernel) rfl rfl ?_
      refine g_iconst 3506 (show op 0 3505 = some (.iconst 0, 1) by decide +kernel) rfl rfl ?_
      refine g_laload 3507 1 (show op 0 3506 = some (.laload, 1) by decide +kernel) rfl (by decide +kernel) (by decide) ?_
      refine g_iload 3509 (show op 0 3507 = some (.iload 6, 2) by decide +kernel) rfl rfl ?_
      refine g_i2l 3510 (show op 0 3509 = some (.i2l, 1) by decide +kernel) rfl ?_
      refine g_lcmp 3511 (show op 0 3510 = some (.lcmp, 1) by decide +kernel) rfl ?_
      by_cases hc19 : (if v10 < (s13 726 (0 : Int).toNat) then 1 else if (s13 726 (0 : Int).toNat) = v10 then 0 else -1) = 0
      · rw [if_pos hc19] at h
        refine g_ifT 3516 (show op 0 3511 = some (.ifCond .eq 5, 3) by decide +kernel) rfl (decide_eq_true hc19) ?_
        exact h
      · rw [if_neg hc19] at h
        refine g_ifF 3514 3516 (show op 0 3511 = some (.ifCond .eq 5, 3) by decide +kernel) rfl rfl (decide_eq_false hc19) ?_
        refine g_iconst 3515 (show op 0 3514 = some (.iconst 0, 1) by decide +kernel) rfl rfl ?_
        exact (g_zret (show op 0 3515 = some (.ireturn, 1) by decide +kernel) (by decide +kernel) (by decide) h)
    · rw [if_neg hc18] at h
      refine g_ifT 3516 (show op 0 3501 = some (.ifCond .ne 15, 3) by decide +kernel) rfl (decide_eq_true hc18) ?_
      exact h
  · rw [if_neg hc17] at h
    refine g_icmpF 3497 3499 (show op 0 3494 = some (.if_icmp .eq 5, 3) by decide +kernel) rfl rfl (decide_eq_false hc17) ?_
    refine g_iconst 3498 (show op 0 3497 = some (.iconst 0, 1) by decide +kernel) rfl rfl ?_
    exact (g_zret (show op 0 3498 = some (.ireturn, 1) by decide +kernel) (by decide +kernel) (by decide) h)
theorem b0_3519 {x4 : Int} {d5 : Option AV} {d6 : Option AV} {k : Nat} {n : Nat} {σ : Sg} {o : Rs} (h : (-2147483648 ≤ (x4 + 1) ∧ (x4 + 1) ≤ 2147483647) ∧ (0 ≤ (x4 + 1) ∧ (x4 + 1) < σ (SCR + 1) 0) ∧ (-2147483648 ≤ (x4 + 2) ∧ (x4 + 2) ≤ 2147483647) ∧ (0 ≤ (x4 + 2) ∧ (x4 + 2) < σ (SCR + 1) 0) ∧ ((k + 2) ≤ 601024 ∧ (n + 12) ≤ 7293034) ∧ (∃ (v6 : Int) (s5 : Sg), Dd 437 [(.inr (.inr (some 0))), (.inl (σ SCR ((x4 + 1)).toNat)), (.inl (σ SCR ((x4 + 2)).toNat)), (.inr (.inr (some 726)))] σ (.inl (some (.inl v6)), s5) ∧ (-2147483648 ≤ (x4 + 1) ∧ (x4 + 1) ≤ 2147483647) ∧ (0 ≤ (x4 + 1) ∧ (x4 + 1) < s5 (SCR + 1) 0) ∧ (-2147483648 ≤ (x4 + 2) ∧ (x4 + 2) ≤ 2147483647) ∧ (0 ≤ (x4 + 2) ∧ (x4 + 2) < s5 (SCR + 1) 0) ∧ ((k + 2) ≤ 601024 ∧ (n + 12) ≤ 7293034) ∧ (∃ (v14 : Int) (s13 : Sg), Dd 380 [(.inr (.inr (some 682))), (.inl (s5 SCR ((x4 + 1)).toNat)), (.inl (s5 SCR ((x4 + 2)).toNat))] s5 (.inl (some (.inl v14)), s13) ∧ ((k + 2) ≤ 601024 ∧ (n + 12) ≤ 7293034) ∧ (∃ (v18 : Int) (s17 : Sg), Dd 244 [(.inr (.inr (some 682)))] s13 (.inl (some (.inl v18)), s17) ∧ (if v18 = v6 then (if v6 = 0 then (if (if v14 < (s17 726 (0 : Int).toNat) then 1 else if (s17 726 (0 : Int).toNat) = v14 then 0 else -1) = 0 then C0_3584 x4 (some (.inl v6)) (some (.inl v14)) (k + 2) (n + 12) s17 o else o = (.inl (some (.inl 0)), s17)) else C0_3584 x4 (some (.inl v6)) (some (.inl v14)) (k + 2) (n + 12) s17 o) else o = (.inl (some (.inl 0)), s17)))))) : C0_3519 x4 d5 d6 k n σ o := by
  show Gd 0 3519 [(some (.inr (.inr (some SCR)))), (some (.inr (.inr (some 0)))), (some (.inr (.inr (some 682)))), (some (.inr (.inr (some 726)))), (some (.inl x4)), d5, d6] [] σ k n o
  refine g_aload_n 3520 (show op 0 3519 = some (.aload_n 1, 1) by decide +kernel) rfl rfl ?_
  refine g_aload_n 3521 (show op 0 3520 = some (.aload_n 0, 1) by decide +kernel) rfl rfl ?_
  refine g_iload 3523 (show op 0 3521 = some (.iload 4, 2) by decide +kernel) rfl rfl ?_
  refine g_iconst 3524 (show op 0 3523 = some (.iconst 1, 1) by decide +kernel) rfl rfl ?_
  obtain ⟨g1, h⟩ := h
  refine g_iadd 3525 (show op 0 3524 = some (.iadd, 1) by decide +kernel) rfl g1 ?_
  obtain ⟨g2, h⟩ := h
  refine g_scr 3526 (show op 0 3525 = some (.iaload, 1) by decide +kernel) rfl g2 ?_
  refine g_aload_n 3527 (show op 0 3526 = some (.aload_n 0, 1) by decide +kernel) rfl rfl ?_
  refine g_iload 3529 (show op 0 3527 = some (.iload 4, 2) by decide +kernel) rfl rfl ?_
  refine g_iconst 3530 (show op 0 3529 = some (.iconst 2, 1) by decide +kernel) rfl rfl ?_
  obtain ⟨g3, h⟩ := h
  refine g_iadd 3531 (show op 0 3530 = some (.iadd, 1) by decide +kernel) rfl g3 ?_
  obtain ⟨g4, h⟩ := h
  refine g_scr 3532 (show op 0 3531 = some (.iaload, 1) by decide +kernel) rfl g4 ?_
  refine g_aload_n 3533 (show op 0 3532 = some (.aload_n 3, 1) by decide +kernel) rfl rfl ?_
  obtain ⟨g8, h⟩ := h
  obtain ⟨v6, s5, hD7, h⟩ := h
  refine g_call 3536 [(.inl v6)] (show op 0 3533 = some (.invokestatic 350, 3) by decide +kernel) (call_stL (c := 2) (s := 12) (nj := 4) (j := 437) (t := []) (as := [(.inr (.inr (some 0))), (.inl (σ SCR ((x4 + 1)).toNat)), (.inl (σ SCR ((x4 + 2)).toNat)), (.inr (.inr (some 726)))]) (by decide +kernel) rfl (by decide +kernel) g8 rfl rfl rfl rfl rfl) hD7 rfl ?_
  refine g_istore 3538 [(some (.inr (.inr (some SCR)))), (some (.inr (.inr (some 0)))), (some (.inr (.inr (some 682)))), (some (.inr (.inr (some 726)))), (some (.inl x4)), (some (.inl v6)), d6] (show op 0 3536 = some (.istore 5, 2) by decide +kernel) rfl rfl rfl ?_
  refine g_aload_n 3539 (show op 0 3538 = some (.aload_n 2, 1) by decide +kernel) rfl rfl ?_
  refine g_aload_n 3540 (show op 0 3539 = some (.aload_n 0, 1) by decide +kernel) rfl rfl ?_
  refine g_iload 3542 (show op 0 3540 = some (.iload 4, 2) by decide +kernel) rfl rfl ?_
  refine g_iconst 3543 (show op 0 3542 = some (.iconst 1, 1) by decide +kernel) rfl rfl ?_
  obtain ⟨g9, h⟩ := h
  refine g_iadd 3544 (show op 0 3543 = some (.iadd, 1) by decide +kernel) rfl g9 ?_
  obtain ⟨g10, h⟩ := h
  refine g_scr 3545 (show op 0 3544 = some (.iaload, 1) by decide +kernel) rfl g10 ?_
  refine g_aload_n 3546 (show op 0 3545 = some (.aload_n 0, 1) by decide +kernel) rfl rfl ?_
  refine g_iload 3548 (show op 0 3546 = some (.iload 4, 2) by decide +kernel) rfl rfl ?_
  refine g_iconst 3549 (show op 0 3548 = some (.iconst 2, 1) by decide +kernel) rfl rfl ?_
  obtain ⟨g11, h⟩ := h
  refine g_iadd 3550 (show op 0 3549 = some (.iadd, 1) by decide +kernel) rfl g11 ?_
  obtain ⟨g12, h⟩ := h
  refine g_scr 3551 (show op 0 3550 = some (.iaload, 1) by decide +kernel) rfl g12 ?_
  obtain ⟨g16, h⟩ := h
  obtain ⟨v14, s13, hD15, h⟩ := h
  refine g_call 3554 [(.inl v14)] (show op 0 3551 = some (.invokevirtual 352, 3) by decide +kernel) (call_viL (c := 0) (s := 0) (nj := 3) (j := 380) (k9 := 21) (t := []) (as := [(.inr (.inr (some 682))), (.inl (s5 SCR ((x4 + 1)).toNat)), (.inl (s5 SCR ((x4 + 2)).toNat))]) (by decide +kernel) rfl (by decide +kernel) g16 rfl rfl rfl rfl rfl rfl (by decide +kernel) (by decide +kernel)) hD15 rfl ?_
  refine g_istore 3556 [(some (.inr (.inr (some SCR)))), (some (.inr (.inr (some 0)))), (some (.inr (.inr (some 682)))), (some (.inr (.inr (some 726)))), (some (.inl x4)), (some (.inl v6)), (some (.inl v14))] (show op 0 3554 = some (.istore 6, 2) by decide +kernel) rfl rfl rfl ?_
  refine g_aload_n 3557 (show op 0 3556 = some (.aload_n 2, 1) by decide +kernel) rfl rfl ?_
  obtain ⟨g20, h⟩ := h
  obtain ⟨v18, s17, hD19, h⟩ := h
  refine g_call 3560 [(.inl v18)] (show op 0 3557 = some (.invokevirtual 194, 3) by decide +kernel) (call_viL (c := 0) (s := 0) (nj := 1) (j := 244) (k9 := 21) (t := []) (as := [(.inr (.inr (some 682)))]) (by decide +kernel) rfl (by decide +kernel) g20 rfl rfl rfl rfl rfl rfl (by decide +kernel) (by decide +kernel)) hD19 rfl ?_
  refine g_iload 3562 (show op 0 3560 = some (.iload 5, 2) by decide +kernel) rfl rfl ?_
  by_cases hc21 : v18 = v6
  · rw [if_pos hc21] at h
    refine g_icmpT 3567 (show op 0 3562 = some (.if_icmp .eq 5, 3) by decide +kernel) rfl (decide_eq_true hc21) ?_
    refine g_iload 3569 (show op 0 3567 = some (.iload 5, 2) by decide +kernel) rfl rfl ?_
    by_cases hc22 : v6 = 0
    · rw [if_pos hc22] at h
      refine g_ifF 3572 3584 (show op 0 3569 = some (.ifCond .ne 15, 3) by decide +kernel) rfl rfl (decide_eq_false (fun h9 => h9 hc22)) ?_
      refine g_aload_n 3573 (show op 0 3572 = some (.aload_n 3, 1) by decide +kernel) rfl rfl ?_
      refine g_iconst 3574 (show op 0 3573 = some (.iconst 0, 1) by decide +kernel) rfl rfl ?_
      refine g_laload 3575 1 (show op 0 3574 = some (.laload, 1) by decide +kernel) rfl (by decide +kernel) (by decide) ?_
      refine g_iload 3577 (show op 0 3575 = some (.iload 6, 2) by decide +kernel) rfl rfl ?_
      refine g_i2l 3578 (show op 0 3577 = some (.i2l, 1) by decide +kernel) rfl ?_
      refine g_lcmp 3579 (show op 0 3578 = some (.lcmp, 1) by decide +kernel) rfl ?_
      by_cases hc23 : (if v14 < (s17 726 (0 : Int).toNat) then 1 else if (s17 726 (0 : Int).toNat) = v14 then 0 else -1) = 0
      · rw [if_pos hc23] at h
        refine g_ifT 3584 (show op 0 3579 = some (.ifCond .eq 5, 3) by decide +kernel) rfl (decide_eq_true hc23) ?_
        exact h
      · rw [if_neg hc23] at h
        refine g_ifF 3582 3584 (show op 0 3579 = some (.ifCond .eq 5, 3) by decide +kernel) rfl rfl (decide_eq_false hc23) ?_
        refine g_iconst 3583 (show op 0 3582 = some (.iconst 0, 1) by decide +kernel) rfl rfl ?_
        exact (g_zret (show op 0 3583 = some (.ireturn, 1) by decide +kernel) (by decide +kernel) (by decide) h)
    · rw [if_neg hc22] at h
      refine g_ifT 3584 (show op 0 3569 = some (.ifCond .ne 15, 3) by decide +kernel) rfl (decide_eq_true hc22) ?_
      exact h
  · rw [if_neg hc21] at h
    refine g_icmpF 3565 3567 (show op 0 3562 = some (.if_icmp .eq 5, 3) by decide +kernel) rfl rfl (decide_eq_false hc21) ?_
    refine g_iconst 3566 (show op 0 3565 = some (.iconst 0, 1) by decide +kernel) rfl rfl ?_
    exact (g_zret (show op 0 3566 = some (.ireturn, 1) by decide +kernel) (by decide +kernel) (by decide) h)
theorem b0_3587 {x4 : Int} {d5 : Option AV} {d6 : Option AV} {k : Nat} {n : Nat} {σ : Sg} {o : Rs} (h : (-2147483648 ≤ (x4 + 1) ∧ (x4 + 1) ≤ 2147483647) ∧ (0 ≤ (x4 + 1) ∧ (x4 + 1) < σ (SCR + 1) 0) ∧ (-2147483648 ≤ (x4 + 2) ∧ (x4 + 2) ≤ 2147483647) ∧ (0 ≤ (x4 + 2) ∧ (x4 + 2) < σ (SCR + 1) 0) ∧ ((k + 3) ≤ 601024 ∧ (n + 18) ≤ 7293034) ∧ (∃ (v6 : Int) (s5 : Sg), Dd 438 [(.inr (.inr (some 0))), (.inl (σ SCR ((x4 + 1)).toNat)), (.inl (σ SCR ((x4 + 2)).toNat)), (.inr (.inr (some 726)))] σ (.inl (some (.inl v6)), s5) ∧ (-2147483648 ≤ (x4 + 1) ∧ (x4 + 1) ≤ 2147483647) ∧ (0 ≤ (x4 + 1) ∧ (x4 + 1) < s5 (SCR + 1) 0) ∧ (-2147483648 ≤ (x4 + 2) ∧ (x4 + 2) ≤ 2147483647) ∧ (0 ≤ (x4 + 2) ∧ (x4 + 2) < s5 (SCR + 1) 0) ∧ ((k + 3) ≤ 601024 ∧ (n + 18) ≤ 7293034) ∧ (∃ (v14 : Int) (s13 : Sg), Dd 382 [(.inr (.inr (some 682))), (.inl (s5 SCR ((x4 + 1)).toNat)), (.inl (s5 SCR ((x4 + 2)).toNat))] s5 (.inl (some (.inl v14)), s13) ∧ ((k + 3) ≤ 601024 ∧ (n + 18) ≤ 7293034) ∧ (∃ (v18 : Int) (s17 : Sg), Dd 244 [(.inr (.inr (some 682)))] s13 (.inl (some (.inl v18)), s17) ∧ (if v18 = v6 then (if v6 = 0 then (if (if v14 < (s17 726 (0 : Int).toNat) then 1 else if (s17 726 (0 : Int).toNat) = v14 then 0 else -1) = 0 then C0_3652 x4 (some (.inl v6)) (some (.inl v14)) (k + 3) (n + 18) s17 o else o = (.inl (some (.inl 0)), s17)) else C0_3652 x4 (some (.inl v6)) (some (.inl v14)) (k + 3) (n + 18) s17 o) else o = (.inl (some (.inl 0)), s17)))))) : C0_3587 x4 d5 d6 k n σ o := by
  show Gd 0 3587 [(some (.inr (.inr (some SCR)))), (some (.inr (.inr (some 0)))), (some (.inr (.inr (some 682)))), (some (.inr (.inr (some 726)))), (some (.inl x4)), d5, d6] [] σ k n o
  refine g_aload_n 3588 (show op 0 3587 = some (.aload_n 1, 1) by decide +kernel) rfl rfl ?_
  refine g_aload_n 3589 (show op 0 3588 = some (.aload_n 0, 1) by decide +kernel) rfl rfl ?_
  refine g_iload 3591 (show op 0 3589 = some (.iload 4, 2) by decide +kernel) rfl rfl ?_
  refine g_iconst 3592 (show op 0 3591 = some (.iconst 1, 1) by decide +kernel) rfl rfl ?_
  obtain ⟨g1, h⟩ := h
  refine g_iadd 3593 (show op 0 3592 = some (.iadd, 1) by decide +kernel) rfl g1 ?_
  obtain ⟨g2, h⟩ := h
  refine g_scr 3594 (show op 0 3593 = some (.iaload, 1) by decide +kernel) rfl g2 ?_
  refine g_aload_n 3595 (show op 0 3594 = some (.aload_n 0, 1) by decide +kernel) rfl rfl ?_
  refine g_iload 3597 (show op 0 3595 = some (.iload 4, 2) by decide +kernel) rfl rfl ?_
  refine g_iconst 3598 (show op 0 3597 = some (.iconst 2, 1) by decide +kernel) rfl rfl ?_
  obtain ⟨g3, h⟩ := h
  refine g_iadd 3599 (show op 0 3598 = some (.iadd, 1) by decide +kernel) rfl g3 ?_
  obtain ⟨g4, h⟩ := h
  refine g_scr 3600 (show op 0 3599 = some (.iaload, 1) by decide +kernel) rfl g4 ?_
  refine g_aload_n 3601 (show op 0 3600 = some (.aload_n 3, 1) by decide +kernel) rfl rfl ?_
  obtain ⟨g8, h⟩ := h
  obtain ⟨v6, s5, hD7, h⟩ := h
  refine g_call 3604 [(.inl v6)] (show op 0 3601 = some (.invokestatic 353, 3) by decide +kernel) (call_stL (c := 3) (s := 18) (nj := 4) (j := 438) (t := []) (as := [(.inr (.inr (some 0))), (.inl (σ SCR ((x4 + 1)).toNat)), (.inl (σ SCR ((x4 + 2)).toNat)), (.inr (.inr (some 726)))]) (by decide +kernel) rfl (by decide +kernel) g8 rfl rfl rfl rfl rfl) hD7 rfl ?_
  refine g_istore 3606 [(some (.inr (.inr (some SCR)))), (some (.inr (.inr (some 0)))), (some (.inr (.inr (some 682)))), (some (.inr (.inr (some 726)))), (some (.inl x4)), (some (.inl v6)), d6] (show op 0 3604 = some (.istore 5, 2) by decide +kernel) rfl rfl rfl ?_
  refine g_aload_n 3607 (show op 0 3606 = some (.aload_n 2, 1) by decide +kernel) rfl rfl ?_
  refine g_aload_n 3608 (show op 0 3607 = some (.aload_n 0, 1) by decide +kernel) rfl rfl ?_
  refine g_iload 3610 (show op 0 3608 = some (.iload 4, 2) by decide +kernel) rfl rfl ?_
  refine g_iconst 3611 (show op 0 3610 = some (.iconst 1, 1) by decide +kernel) rfl rfl ?_
  obtain ⟨g9, h⟩ := h
  refine g_iadd 3612 (show op 0 3611 = some (.iadd, 1) by decide +kernel) rfl g9 ?_
  obtain ⟨g10, h⟩ := h
  refine g_scr 3613 (show op 0 3612 = some (.iaload, 1) by decide +kernel) rfl g10 ?_
  refine g_aload_n 3614 (show op 0 3613 = some (.aload_n 0, 1) by decide +kernel) rfl rfl ?_
  refine g_iload 3616 (show op 0 3614 = some (.iload 4, 2) by decide +kernel) rfl rfl ?_
  refine g_iconst 3617 (show op 0 3616 = some (.iconst 2, 1) by decide +kernel) rfl rfl ?_
  obtain ⟨g11, h⟩ := h
  refine g_iadd 3618 (show op 0 3617 = some (.iadd, 1) by decide +kernel) rfl g11 ?_
  obtain ⟨g12, h⟩ := h
  refine g_scr 3619 (show op 0 3618 = some (.iaload, 1) by decide +kernel) rfl g12 ?_
  obtain ⟨g16, h⟩ := h
  obtain ⟨v14, s13, hD15, h⟩ := h
  refine g_call 3622 [(.inl v14)] (show op 0 3619 = some (.invokevirtual 355, 3) by decide +kernel) (call_viL (c := 0) (s := 0) (nj := 3) (j := 382) (k9 := 21) (t := []) (as := [(.inr (.inr (some 682))), (.inl (s5 SCR ((x4 + 1)).toNat)), (.inl (s5 SCR ((x4 + 2)).toNat))]) (by decide +kernel) rfl (by decide +kernel) g16 rfl rfl rfl rfl rfl rfl (by decide +kernel) (by decide +kernel)) hD15 rfl ?_
  refine g_istore 3624 [(some (.inr (.inr (some SCR)))), (some (.inr (.inr (some 0)))), (some (.inr (.inr (some 682)))), (some (.inr (.inr (some 726)))), (some (.inl x4)), (some (.inl v6)), (some (.inl v14))] (show op 0 3622 = some (.istore 6, 2) by decide +kernel) rfl rfl rfl ?_
  refine g_aload_n 3625 (show op 0 3624 = some (.aload_n 2, 1) by decide +kernel) rfl rfl ?_
  obtain ⟨g20, h⟩ := h
  obtain ⟨v18, s17, hD19, h⟩ := h
  refine g_call 3628 [(.inl v18)] (show op 0 3625 = some (.invokevirtual 194, 3) by decide +kernel) (call_viL (c := 0) (s := 0) (nj := 1) (j := 244) (k9 := 21) (t := []) (as := [(.inr (.inr (some 682)))]) (by decide +kernel) rfl (by decide +kernel) g20 rfl rfl rfl rfl rfl rfl (by decide +kernel) (by decide +kernel)) hD19 rfl ?_
  refine g_iload 3630 (show op 0 3628 = some (.iload 5, 2) by decide +kernel) rfl rfl ?_
  by_cases hc21 : v18 = v6
  · rw [if_pos hc21] at h
    refine g_icmpT 3635 (show op 0 3630 = some (.if_icmp .eq 5, 3) by decide +kernel) rfl (decide_eq_true hc21) ?_
    refine g_iload 3637 (show op 0 3635 = some (.iload 5, 2) by decide +kernel) rfl rfl ?_
    by_cases hc22 : v6 = 0
    · rw [if_pos hc22] at h
      refine g_ifF 3640 3652 (show op 0 3637 = some (.ifCond .ne 15, 3) by decide +kernel) rfl rfl (decide_eq_false (fun h9 => h9 hc22)) ?_
      refine g_aload_n 3641 (show op 0 3640 = some (.aload_n 3, 1) by decide +kernel) rfl rfl ?_
      refine g_iconst 3642 (show op 0 3641 = some (.iconst 0, 1) by decide +kernel) rfl rfl ?_
      refine g_laload 3643 1 (show op 0 3642 = some (.laload, 1) by decide +kernel) rfl (by decide +kernel) (by decide) ?_
      refine g_iload 3645 (show op 0 3643 = some (.iload 6, 2) by decide +kernel) rfl rfl ?_
      refine g_i2l 3646 (show op 0 3645 = some (.i2l, 1) by decide +kernel) rfl ?_
      refine g_lcmp 3647 (show op 0 3646 = some (.lcmp, 1) by decide +kernel) rfl ?_
      by_cases hc23 : (if v14 < (s17 726 (0 : Int).toNat) then 1 else if (s17 726 (0 : Int).toNat) = v14 then 0 else -1) = 0
      · rw [if_pos hc23] at h
        refine g_ifT 3652 (show op 0 3647 = some (.ifCond .eq 5, 3) by decide +kernel) rfl (decide_eq_true hc23) ?_
        exact h
      · rw [if_neg hc23] at h
        refine g_ifF 3650 3652 (show op 0 3647 = some (.ifCond .eq 5, 3) by decide +kernel) rfl rfl (decide_eq_false hc23) ?_
        refine g_iconst 3651 (show op 0 3650 = some (.iconst 0, 1) by decide +kernel) rfl rfl ?_
        exact (g_zret (show op 0 3651 = some (.ireturn, 1) by decide +kernel) (by decide +kernel) (by decide) h)
    · rw [if_neg hc22] at h
      refine g_ifT 3652 (show op 0 3637 = some (.ifCond .ne 15, 3) by decide +kernel) rfl (decide_eq_true hc22) ?_
      exact h
  · rw [if_neg hc21] at h
    refine g_icmpF 3633 3635 (show op 0 3630 = some (.if_icmp .eq 5, 3) by decide +kernel) rfl rfl (decide_eq_false hc21) ?_
    refine g_iconst 3634 (show op 0 3633 = some (.iconst 0, 1) by decide +kernel) rfl rfl ?_
    exact (g_zret (show op 0 3634 = some (.ireturn, 1) by decide +kernel) (by decide +kernel) (by decide) h)
theorem b0_3655 {x4 : Int} {d5 : Option AV} {d6 : Option AV} {k : Nat} {n : Nat} {σ : Sg} {o : Rs} (h : (-2147483648 ≤ (x4 + 1) ∧ (x4 + 1) ≤ 2147483647) ∧ (0 ≤ (x4 + 1) ∧ (x4 + 1) < σ (SCR + 1) 0) ∧ (-2147483648 ≤ (x4 + 2) ∧ (x4 + 2) ≤ 2147483647) ∧ (0 ≤ (x4 + 2) ∧ (x4 + 2) < σ (SCR + 1) 0) ∧ ((k + 4) ≤ 601024 ∧ (n + 24) ≤ 7293034) ∧ (∃ (v6 : Int) (s5 : Sg), Dd 439 [(.inr (.inr (some 0))), (.inl (σ SCR ((x4 + 1)).toNat)), (.inl (σ SCR ((x4 + 2)).toNat)), (.inr (.inr (some 726)))] σ (.inl (some (.inl v6)), s5) ∧ (-2147483648 ≤ (x4 + 1) ∧ (x4 + 1) ≤ 2147483647) ∧ (0 ≤ (x4 + 1) ∧ (x4 + 1) < s5 (SCR + 1) 0) ∧ (-2147483648 ≤ (x4 + 2) ∧ (x4 + 2) ≤ 2147483647) ∧ (0 ≤ (x4 + 2) ∧ (x4 + 2) < s5 (SCR + 1) 0) ∧ ((k + 4) ≤ 601024 ∧ (n + 24) ≤ 7293034) ∧ (∃ (v14 : Int) (s13 : Sg), Dd 385 [(.inr (.inr (some 682))), (.inl (s5 SCR ((x4 + 1)).toNat)), (.inl (s5 SCR ((x4 + 2)).toNat))] s5 (.inl (some (.inl v14)), s13) ∧ ((k + 4) ≤ 601024 ∧ (n + 24) ≤ 7293034) ∧ (∃ (v18 : Int) (s17 : Sg), Dd 244 [(.inr (.inr (some 682)))] s13 (.inl (some (.inl v18)), s17) ∧ (if v18 = v6 then (if v6 = 0 then (if (if v14 < (s17 726 (0 : Int).toNat) then 1 else if (s17 726 (0 : Int).toNat) = v14 then 0 else -1) = 0 then C0_3720 x4 (some (.inl v6)) (some (.inl v14)) (k + 4) (n + 24) s17 o else o = (.inl (some (.inl 0)), s17)) else C0_3720 x4 (some (.inl v6)) (some (.inl v14)) (k + 4) (n + 24) s17 o) else o = (.inl (some (.inl 0)), s17)))))) : C0_3655 x4 d5 d6 k n σ o := by
  show Gd 0 3655 [(some (.inr (.inr (some SCR)))), (some (.inr (.inr (some 0)))), (some (.inr (.inr (some 682)))), (some (.inr (.inr (some 726)))), (some (.inl x4)), d5, d6] [] σ k n o
  refine g_aload_n 3656 (show op 0 3655 = some (.aload_n 1, 1) by decide +kernel) rfl rfl ?_
  refine g_aload_n 3657 (show op 0 3656 = some (.aload_n 0, 1) by decide +kernel) rfl rfl ?_
  refine g_iload 3659 (show op 0 3657 = some (.iload 4, 2) by decide +kernel) rfl rfl ?_
  refine g_iconst 3660 (show op 0 3659 = some (.iconst 1, 1) by decide +kernel) rfl rfl ?_
  obtain ⟨g1, h⟩ := h
  refine g_iadd 3661 (show op 0 3660 = some (.iadd, 1) by decide +kernel) rfl g1 ?_
  obtain ⟨g2, h⟩ := h
  refine g_scr 3662 (show op 0 3661 = some (.iaload, 1) by decide +kernel) rfl g2 ?_
  refine g_aload_n 3663 (show op 0 3662 = some (.aload_n 0, 1) by decide +kernel) rfl rfl ?_
  refine g_iload 3665 (show op 0 3663 = some (.iload 4, 2) by decide +kernel) rfl rfl ?_
  refine g_iconst 3666 (show op 0 3665 = some (.iconst 2, 1) by decide +kernel) rfl rfl ?_
  obtain ⟨g3, h⟩ := h
  refine g_iadd 3667 (show op 0 3666 = some (.iadd, 1) by decide +kernel) rfl g3 ?_
  obtain ⟨g4, h⟩ := h
  refine g_scr 3668 (show op 0 3667 = some (.iaload, 1) by decide +kernel) rfl g4 ?_
  refine g_aload_n 3669 (show op 0 3668 = some (.aload_n 3, 1) by decide +kernel) rfl rfl ?_
  obtain ⟨g8, h⟩ := h
  obtain ⟨v6, s5, hD7, h⟩ := h
  refine g_call 3672 [(.inl v6)] (show op 0 3669 = some (.invokestatic 356, 3) by decide +kernel) (call_stL (c := 4) (s := 24) (nj := 4) (j := 439) (t := []) (as := [(.inr (.inr (some 0))), (.inl (σ SCR ((x4 + 1)).toNat)), (.inl (σ SCR ((x4 + 2)).toNat)), (.inr (.inr (some 726)))]) (by decide +kernel) rfl (by decide +kernel) g8 rfl rfl rfl rfl rfl) hD7 rfl ?_
  refine g_istore 3674 [(some (.inr (.inr (some SCR)))), (some (.inr (.inr (some 0)))), (some (.inr (.inr (some 682)))), (some (.inr (.inr (some 726)))), (some (.inl x4)), (some (.inl v6)), d6] (show op 0 3672 = some (.istore 5, 2) by decide +kernel) rfl rfl rfl ?_
  refine g_aload_n 3675 (show op 0 3674 = some (.aload_n 2, 1) by decide +kernel) rfl rfl ?_
  refine g_aload_n 3676 (show op 0 3675 = some (.aload_n 0, 1) by decide +kernel) rfl rfl ?_
  refine g_iload 3678 (show op 0 3676 = some (.iload 4, 2) by decide +kernel) rfl rfl ?_
  refine g_iconst 3679 (show op 0 3678 = some (.iconst 1, 1) by decide +kernel) rfl rfl ?_
  obtain ⟨g9, h⟩ := h
  refine g_iadd 3680 (show op 0 3679 = some (.iadd, 1) by decide +kernel) rfl g9 ?_
  obtain ⟨g10, h⟩ := h
  refine g_scr 3681 (show op 0 3680 = some (.iaload, 1) by decide +kernel) rfl g10 ?_
  refine g_aload_n 3682 (show op 0 3681 = some (.aload_n 0, 1) by decide +kernel) rfl rfl ?_
  refine g_iload 3684 (show op 0 3682 = some (.iload 4, 2) by decide +kernel) rfl rfl ?_
  refine g_iconst 3685 (show op 0 3684 = some (.iconst 2, 1) by decide +kernel) rfl rfl ?_
  obtain ⟨g11, h⟩ := h
  refine g_iadd 3686 (show op 0 3685 = some (.iadd, 1) by decide +kernel) rfl g11 ?_
  obtain ⟨g12, h⟩ := h
  refine g_scr 3687 (show op 0 3686 = some (.iaload, 1) by decide +kernel) rfl g12 ?_
  obtain ⟨g16, h⟩ := h
  obtain ⟨v14, s13, hD15, h⟩ := h
  refine g_call 3690 [(.inl v14)] (show op 0 3687 = some (.invokevirtual 358, 3) by decide +kernel) (call_viL (c := 0) (s := 0) (nj := 3) (j := 385) (k9 := 21) (t := []) (as := [(.inr (.inr (some 682))), (.inl (s5 SCR ((x4 + 1)).toNat)), (.inl (s5 SCR ((x4 + 2)).toNat))]) (by decide +kernel) rfl (by decide +kernel) g16 rfl rfl rfl rfl rfl rfl (by decide +kernel) (by decide +kernel)) hD15 rfl ?_
  refine g_istore 3692 [(some (.inr (.inr (some SCR)))), (some (.inr (.inr (some 0)))), (some (.inr (.inr (some 682)))), (some (.inr (.inr (some 726)))), (some (.inl x4)), (some (.inl v6)), (some (.inl v14))] (show op 0 3690 = some (.istore 6, 2) by decide +kernel) rfl rfl rfl ?_
  refine g_aload_n 3693 (show op 0 3692 = some (.aload_n 2, 1) by decide +kernel) rfl rfl ?_
  obtain ⟨g20, h⟩ := h
  obtain ⟨v18, s17, hD19, h⟩ := h
  refine g_call 3696 [(.inl v18)] (show op 0 3693 = some (.invokevirtual 194, 3) by decide +kernel) (call_viL (c := 0) (s := 0) (nj := 1) (j := 244) (k9 := 21) (t := []) (as := [(.inr (.inr (some 682)))]) (by decide +kernel) rfl (by decide +kernel) g20 rfl rfl rfl rfl rfl rfl (by decide +kernel) (by decide +kernel)) hD19 rfl ?_
  refine g_iload 3698 (show op 0 3696 = some (.iload 5, 2) by decide +kernel) rfl rfl ?_
  by_cases hc21 : v18 = v6
  · rw [if_pos hc21] at h
    refine g_icmpT 3703 (show op 0 3698 = some (.if_icmp .eq 5, 3) by decide +kernel) rfl (decide_eq_true hc21) ?_
    refine g_iload 3705 (show op 0 3703 = some (.iload 5, 2) by decide +kernel) rfl rfl ?_
    by_cases hc22 : v6 = 0
    · rw [if_pos hc22] at h
      refine g_ifF 3708 3720 (show op 0 3705 = some (.ifCond .ne 15, 3) by decide +kernel) rfl rfl (decide_eq_false (fun h9 => h9 hc22)) ?_
      refine g_aload_n 3709 (show op 0 3708 = some (.aload_n 3, 1) by decide +kernel) rfl rfl ?_
      refine g_iconst 3710 (show op 0 3709 = some (.iconst 0, 1) by decide +kernel) rfl rfl ?_
      refine g_laload 3711 1 (show op 0 3710 = some (.laload, 1) by decide +kernel) rfl (by decide +kernel) (by decide) ?_
      refine g_iload 3713 (show op 0 3711 = some (.iload 6, 2) by decide +kernel) rfl rfl ?_
      refine g_i2l 3714 (show op 0 3713 = some (.i2l, 1) by decide +kernel) rfl ?_
      refine g_lcmp 3715 (show op 0 3714 = some (.lcmp, 1) by decide +kernel) rfl ?_
      by_cases hc23 : (if v14 < (s17 726 (0 : Int).toNat) then 1 else if (s17 726 (0 : Int).toNat) = v14 then 0 else -1) = 0
      · rw [if_pos hc23] at h
        refine g_ifT 3720 (show op 0 3715 = some (.ifCond .eq 5, 3) by decide +kernel) rfl (decide_eq_true hc23) ?_
        exact h
      · rw [if_neg hc23] at h
        refine g_ifF 3718 3720 (show op 0 3715 = some (.ifCond .eq 5, 3) by decide +kernel) rfl rfl (decide_eq_false hc23) ?_
        refine g_iconst 3719 (show op 0 3718 = some (.iconst 0, 1) by decide +kernel) rfl rfl ?_
        exact (g_zret (show op 0 3719 = some (.ireturn, 1) by decide +kernel) (by decide +kernel) (by decide) h)
    · rw [if_neg hc22] at h
      refine g_ifT 3720 (show op 0 3705 = some (.ifCond .ne 15, 3) by decide +kernel) rfl (decide_eq_true hc22) ?_
      exact h
  · rw [if_neg hc21] at h
    refine g_icmpF 3701 3703 (show op 0 3698 = some (.if_icmp .eq 5, 3) by decide +kernel) rfl rfl (decide_eq_false hc21) ?_
    refine g_iconst 3702 (show op 0 3701 = some (.iconst 0, 1) by decide +kernel) rfl rfl ?_
    exact (g_zret (show op 0 3702 = some (.ireturn, 1) by decide +kernel) (by decide +kernel) (by decide) h)
theorem b0_3723 {x4 : Int} {d5 : Option AV} {d6 : Option AV} {k : Nat} {n : Nat} {σ : Sg} {o : Rs} (h : (-2147483648 ≤ (x4 + 1) ∧ (x4 + 1) ≤ 2147483647) ∧ (0 ≤ (x4 + 1) ∧ (x4 + 1) < σ (SCR + 1) 0) ∧ ((k + 1) ≤ 601024 ∧ (n + 6) ≤ 7293034) ∧ (∃ (v4 : Int) (s3 : Sg), Dd 440 [(.inr (.inr (some 0))), (.inl (σ SCR ((x4 + 1)).toNat)), (.inr (.inr (some 726)))] σ (.inl (some (.inl v4)), s3) ∧ (-2147483648 ≤ (x4 + 1) ∧ (x4 + 1) ≤ 2147483647) ∧ (0 ≤ (x4 + 1) ∧ (x4 + 1) < s3 (SCR + 1) 0) ∧ ((k + 1) ≤ 601024 ∧ (n + 6) ≤ 7293034) ∧ (∃ (v10 : Int) (s9 : Sg), Dd 387 [(.inr (.inr (some 682))), (.inl (s3 SCR ((x4 + 1)).toNat))] s3 (.inl (some (.inl v10)), s9) ∧ ((k + 1) ≤ 601024 ∧ (n + 6) ≤ 7293034) ∧ (∃ (v14 : Int) (s13 : Sg), Dd 244 [(.inr (.inr (some 682)))] s9 (.inl (some (.inl v14)), s13) ∧ (if v14 = v4 then (if v4 = 0 then (if (if v10 < (s13 726 (0 : Int).toNat) then 1 else if (s13 726 (0 : Int).toNat) = v10 then 0 else -1) = 0 then C0_3776 x4 (some (.inl v4)) (some (.inl v10)) (k + 1) (n + 6) s13 o else o = (.inl (some (.inl 0)), s13)) else C0_3776 x4 (some (.inl v4)) (some (.inl v10)) (k + 1) (n + 6) s13 o) else o = (.inl (some (.inl 0)), s13)))))) : C0_3723 x4 d5 d6 k n σ o := by
  show Gd 0 3723 [(some (.inr (.inr (some SCR)))), (some (.inr (.inr (some 0)))), (some (.inr (.inr (some 682)))), (some (.inr (.inr (some 726)))), (some (.inl x4)), d5, d6] [] σ k n o
  refine g_aload_n 3724 (show op 0 3723 = some (.aload_n 1, 1) by decide +kernel) rfl rfl ?_
  refine g_aload_n 3725 (show op 0 3724 = some (.aload_n 0, 1) by decide +kernel) rfl rfl ?_
  refine g_iload 3727 (show op 0 3725 = some (.iload 4, 2) by decide +kernel) rfl rfl ?_
  refine g_iconst 3728 (show op 0 3727 = some (.iconst 1, 1) by decide +kernel) rfl rfl ?_
  obtain ⟨g1, h⟩ := h
  refine g_iadd 3729 (show op 0 3728 = some (.iadd, 1) by decide +kernel) rfl g1 ?_
  obtain ⟨g2, h⟩ := h
  refine g_scr 3730 (show op 0 3729 = some (.iaload, 1) by decide +kernel) rfl g2 ?_
  refine g_aload_n 3731 (show op 0 3730 = some (.aload_n 3, 1) by decide +kernel) rfl rfl ?_
  obtain ⟨g6, h⟩ := h
  obtain ⟨v4, s3, hD5, h⟩ := h
  refine g_call 3734 [(.inl v4)] (show op 0 3731 = some (.invokestatic 359, 3) by decide +kernel) (call_stL (c := 1) (s := 6) (nj := 3) (j := 440) (t := []) (as := [(.inr (.inr (some 0))), (.inl (σ SCR ((x4 + 1)).toNat)), (.inr (.inr (some 726)))]) (by decide +kernel) rfl (by decide +kernel) g6 rfl rfl rfl rfl rfl) hD5 rfl ?_
  refine g_istore 3736 [(some (.inr (.inr (some SCR)))), (some (.inr (.inr (some 0)))), (some (.inr (.inr (some 682)))), (some (.inr (.inr (some 726)))), (some (.inl x4)), (some (.inl v4)), d6] (show op 0 3734 = some (.istore 5, 2) by decide +kernel) rfl rfl rfl ?_
  refine g_aload_n 3737 (show op 0 3736 = some (.aload_n 2, 1) by decide +kernel) rfl rfl ?_
  refine g_aload_n 3738 (show op 0 3737 = some (.aload_n 0, 1) by decide +kernel) rfl rfl ?_
  refine g_iload 3740 (show op 0 3738 = some (.iload 4, 2) by decide +kernel) rfl rfl ?_
  refine g_iconst 3741 (show op 0 3740 = some (.iconst 1, 1) by decide +kernel) rfl rfl ?_
  obtain ⟨g7, h⟩ := h
  refine g_iadd 3742 (show op 0 3741 = some (.iadd, 1) by decide +kernel) rfl g7 ?_
  obtain ⟨g8, h⟩ := h
  refine g_scr 3743 (show op 0 3742 = some (.iaload, 1) by decide +kernel) rfl g8 ?_
  obtain ⟨g12, h⟩ := h
  obtain ⟨v10, s9, hD11, h⟩ := h
  refine g_call 3746 [(.inl v10)] (show op 0 3743 = some (.invokevirtual 361, 3) by decide +kernel) (call_viL (c := 0) (s := 0) (nj := 2) (j := 387) (k9 := 21) (t := []) (as := [(.inr (.inr (some 682))), (.inl (s3 SCR ((x4 + 1)).toNat))]) (by decide +kernel) rfl (by decide +kernel) g12 rfl rfl rfl rfl rfl rfl (by decide +kernel) (by decide +kernel)) hD11 rfl ?_
  refine g_istore 3748 [(some (.inr (.inr (some SCR)))), (some (.inr (.inr (some 0)))), (some (.inr (.inr (some 682)))), (some (.inr (.inr (some 726)))), (some (.inl x4)), (some (.inl v4)), (some (.inl v10))] (show op 0 3746 = some (.istore 6, 2) by decide +kernel) rfl rfl rfl ?_
  refine g_aload_n 3749 (show op 0 3748 = some (.aload_n 2, 1) by decide +kernel) rfl rfl ?_
  obtain ⟨g16, h⟩ := h
  obtain ⟨v14, s13, hD15, h⟩ := h
  refine g_call 3752 [(.inl v14)] (show op 0 3749 = some (.invokevirtual 194, 3) by decide +kernel) (call_viL (c := 0) (s := 0) (nj := 1) (j := 244) (k9 := 21) (t := []) (as := [(.inr (.inr (some 682)))]) (by decide +kernel) rfl (by decide +kernel) g16 rfl rfl rfl rfl rfl rfl (by decide +kernel) (by decide +kernel)) hD15 rfl ?_
  refine g_iload 3754 (show op 0 3752 = some (.iload 5, 2) by decide +kernel) rfl rfl ?_
  by_cases hc17 : v14 = v4
  · rw [if_pos hc17] at h
    refine g_icmpT 3759 (show op 0 3754 = some (.if_icmp .eq 5, 3) by decide +kernel) rfl (decide_eq_true hc17) ?_
    refine g_iload 3761 (show op 0 3759 = some (.iload 5, 2) by decide +kernel) rfl rfl ?_
    by_cases hc18 : v4 = 0
    · rw [if_pos hc18] at h
      refine g_ifF 3764 3776 (show op 0 3761 = some (.ifCond .ne 15, 3) by decide +kernel) rfl rfl (decide_eq_false (fun h9 => h9 hc18)) ?_
      refine g_aload_n 3765 (show op 0 3764 = some (.aload_n 3, 1) by decide +kernel) rfl rfl ?_
      refine g_iconst 3766 (show op 0 3765 = some (.iconst 0, 1) by decide +kernel) rfl rfl ?_
      refine g_laload 3767 1 (show op 0 3766 = some (.laload, 1) by decide +kernel) rfl (by decide +kernel) (by decide) ?_
      refine g_iload 3769 (show op 0 3767 = some (.iload 6, 2) by decide +kernel) rfl rfl ?_
      refine g_i2l 3770 (show op 0 3769 = some (.i2l, 1) by decide +kernel) rfl ?_
      refine g_lcmp 3771 (show op 0 3770 = some (.lcmp, 1) by decide +kernel) rfl ?_
      by_cases hc19 : (if v10 < (s13 726 (0 : Int).toNat) then 1 else if (s13 726 (0 : Int).toNat) = v10 then 0 else -1) = 0
      · rw [if_pos hc19] at h
        refine g_ifT 3776 (show op 0 3771 = some (.ifCond .eq 5, 3) by decide +kernel) rfl (decide_eq_true hc19) ?_
        exact h
      · rw [if_neg hc19] at h
        refine g_ifF 3774 3776 (show op 0 3771 = some (.ifCond .eq 5, 3) by decide +kernel) rfl rfl (decide_eq_false hc19) ?_
        refine g_iconst 3775 (show op 0 3774 = some (.iconst 0, 1) by decide +kernel) rfl rfl ?_
        exact (g_zret (show op 0 3775 = some (.ireturn, 1) by decide +kernel) (by decide +kernel) (by decide) h)
    · rw [if_neg hc18] at h
      refine g_ifT 3776 (show op 0 3761 = some (.ifCond .ne 15, 3) by decide +kernel) rfl (decide_eq_true hc18) ?_
      exact h
  · rw [if_neg hc17] at h
    refine g_icmpF 3757 3759 (show op 0 3754 = some (.if_icmp .eq 5, 3) by decide +kernel) rfl rfl (decide_eq_false hc17) ?_
    refine g_iconst 3758 (show op 0 3757 = some (.iconst 0, 1) by decide +kernel) rfl rfl ?_
    exact (g_zret (show op 0 3758 = some (.ireturn, 1) by decide +kernel) (by decide +kernel) (by decide) h)
theorem b0_3779 {x4 : Int} {d5 : Option AV} {d6 : Option AV} {k : Nat} {n : Nat} {σ : Sg} {o : Rs} (h : (-2147483648 ≤ (x4 + 1) ∧ (x4 + 1) ≤ 2147483647) ∧ (0 ≤ (x4 + 1) ∧ (x4 + 1) < σ (SCR + 1) 0) ∧ (-2147483648 ≤ (x4 + 2) ∧ (x4 + 2) ≤ 2147483647) ∧ (0 ≤ (x4 + 2) ∧ (x4 + 2) < σ (SCR + 1) 0) ∧ ((k + 2) ≤ 601024 ∧ (n + 12) ≤ 7293034) ∧ (∃ (v6 : Int) (s5 : Sg), Dd 441 [(.inr (.inr (some 0))), (.inl (σ SCR ((x4 + 1)).toNat)), (.inl (σ SCR ((x4 + 2)).toNat)), (.inr (.inr (some 726)))] σ (.inl (some (.inl v6)), s5) ∧ (-2147483648 ≤ (x4 + 1) ∧ (x4 + 1) ≤ 2147483647) ∧ (0 ≤ (x4 + 1) ∧ (x4 + 1) < s5 (SCR + 1) 0) ∧ (-2147483648 ≤ (x4 + 2) ∧ (x4 + 2) ≤ 2147483647) ∧ (0 ≤ (x4 + 2) ∧ (x4 + 2) < s5 (SCR + 1) 0) ∧ ((k + 2) ≤ 601024 ∧ (n + 12) ≤ 7293034) ∧ (∃ (v14 : Int) (s13 : Sg), Dd 388 [(.inr (.inr (some 682))), (.inl (s5 SCR ((x4 + 1)).toNat)), (.inl (s5 SCR ((x4 + 2)).toNat))] s5 (.inl (some (.inl v14)), s13) ∧ ((k + 2) ≤ 601024 ∧ (n + 12) ≤ 7293034) ∧ (∃ (v18 : Int) (s17 : Sg), Dd 244 [(.inr (.inr (some 682)))] s13 (.inl (some (.inl v18)), s17) ∧ (if v18 = v6 then (if v6 = 0 then (if (if v14 < (s17 726 (0 : Int).toNat) then 1 else if (s17 726 (0 : Int).toNat) = v14 then 0 else -1) = 0 then C0_3844 x4 (some (.inl v6)) (some (.inl v14)) (k + 2) (n + 12) s17 o else o = (.inl (some (.inl 0)), s17)) else C0_3844 x4 (some (.inl v6)) (some (.inl v14)) (k + 2) (n + 12) s17 o) else o = (.inl (some (.inl 0)), s17)))))) : C0_3779 x4 d5 d6 k n σ o := by
  show Gd 0 3779 [(some (.inr (.inr (some SCR)))), (some (.inr (.inr (some 0)))), (some (.inr (.inr (some 682)))), (some (.inr (.inr (some 726)))), (some (.inl x4)), d5, d6] [] σ k n o
  refine g_aload_n 3780 (show op 0 3779 = some (.aload_n 1, 1) by decide +kernel) rfl rfl ?_
  refine g_aload_n 3781 (show op 0 3780 = some (.aload_n 0, 1) by decide +kernel) rfl rfl ?_
  refine g_iload 3783 (show op 0 3781 = some (.iload 4, 2) by decide +kernel) rfl rfl ?_
  refine g_iconst 3784 (show op 0 3783 = some (.iconst 1, 1) by decide +kernel) rfl rfl ?_
  obtain ⟨g1, h⟩ := h
  refine g_iadd 3785 (show op 0 3784 = some (.iadd, 1) by decide +kernel) rfl g1 ?_
  obtain ⟨g2, h⟩ := h
  refine g_scr 3786 (show op 0 3785 = some (.iaload, 1) by decide +kernel) rfl g2 ?_
  refine g_aload_n 3787 (show op 0 3786 = some (.aload_n 0, 1) by decide +kernel) rfl rfl ?_
  refine g_iload 3789 (show op 0 3787 = some (.iload 4, 2) by decide +kernel) rfl rfl ?_
  refine g_iconst 3790 (show op 0 3789 = some (.iconst 2, 1) by decide +kernel) rfl rfl ?_
  obtain ⟨g3, h⟩ := h
  refine g_iadd 3791 (show op 0 3790 = some (.iadd, 1) by decide +kernel) rfl g3 ?_
  obtain ⟨g4, h⟩ := h
  refine g_scr 3792 (show op 0 3791 = some (.iaload, 1) by decide +kernel) rfl g4 ?_
  refine g_aload_n 3793 (show op 0 3792 = some (.aload_n 3, 1) by decide +kernel) rfl rfl ?_
  obtain ⟨g8, h⟩ := h
  obtain ⟨v6, s5, hD7, h⟩ := h
  refine g_call 3796 [(.inl v6)] (show op 0 3793 = some (.invokestatic 362, 3) by decide +kernel) (call_stL (c := 2) (s := 12) (nj := 4) (j := 441) (t := []) (as := [(.inr (.inr (some 0))), (.inl (σ SCR ((x4 + 1)).toNat)), (.inl (σ SCR ((x4 + 2)).toNat)), (.inr (.inr (some 726)))]) (by decide +kernel) rfl (by decide +kernel) g8 rfl rfl rfl rfl rfl) hD7 rfl ?_
  refine g_istore 3798 [(some (.inr (.inr (some SCR)))), (some (.inr (.inr (some 0)))), (some (.inr (.inr (some 682)))), (some (.inr (.inr (some 726)))), (some (.inl x4)), (some (.inl v6)), d6] (show op 0 3796 = some (.istore 5, 2) by decide +kernel) rfl rfl rfl ?_
  refine g_aload_n 3799 (show op 0 3798 = some (.aload_n 2, 1) by decide +kernel) rfl rfl ?_
  refine g_aload_n 3800 (show op 0 3799 = some (.aload_n 0, 1) by decide +kernel) rfl rfl ?_
  refine g_iload 3802 (show op 0 3800 = some (.iload 4, 2) by decide +kernel) rfl rfl ?_
  refine g_iconst 3803 (show op 0 3802 = some (.iconst 1, 1) by decide +kernel) rfl rfl ?_
  obtain ⟨g9, h⟩ := h
  refine g_iadd 3804 (show op 0 3803 = some (.iadd, 1) by decide +kernel) rfl g9 ?_
  obtain ⟨g10, h⟩ := h
  refine g_scr 3805 (show op 0 3804 = some (.iaload, 1) by decide +kernel) rfl g10 ?_
  refine g_aload_n 3806 (show op 0 3805 = some (.aload_n 0, 1) by decide +kernel) rfl rfl ?_
  refine g_iload 3808 (show op 0 3806 = some (.iload 4, 2) by decide +kernel) rfl rfl ?_
  refine g_iconst 3809 (show op 0 3808 = some (.iconst 2, 1) by decide +kernel) rfl rfl ?_
  obtain ⟨g11, h⟩ := h
  refine g_iadd 3810 (show op 0 3809 = some (.iadd, 1) by decide +kernel) rfl g11 ?_
  obtain ⟨g12, h⟩ := h
  refine g_scr 3811 (show op 0 3810 = some (.iaload, 1) by decide +kernel) rfl g12 ?_
  obtain ⟨g16, h⟩ := h
  obtain ⟨v14, s13, hD15, h⟩ := h
  refine g_call 3814 [(.inl v14)] (show op 0 3811 = some (.invokevirtual 364, 3) by decide +kernel) (call_viL (c := 0) (s := 0) (nj := 3) (j := 388) (k9 := 21) (t := []) (as := [(.inr (.inr (some 682))), (.inl (s5 SCR ((x4 + 1)).toNat)), (.inl (s5 SCR ((x4 + 2)).toNat))]) (by decide +kernel) rfl (by decide +kernel) g16 rfl rfl rfl rfl rfl rfl (by decide +kernel) (by decide +kernel)) hD15 rfl ?_
  refine g_istore 3816 [(some (.inr (.inr (some SCR)))), (some (.inr (.inr (some 0)))), (some (.inr (.inr (some 682)))), (some (.inr (.inr (some 726)))), (some (.inl x4)), (some (.inl v6)), (some (.inl v14))] (show op 0 3814 = some (.istore 6, 2) by decide +kernel) rfl rfl rfl ?_
  refine g_aload_n 3817 (show op 0 3816 = some (.aload_n 2, 1) by decide +kernel) rfl rfl ?_
  obtain ⟨g20, h⟩ := h
  obtain ⟨v18, s17, hD19, h⟩ := h
  refine g_call 3820 [(.inl v18)] (show op 0 3817 = some (.invokevirtual 194, 3) by decide +kernel) (call_viL (c := 0) (s := 0) (nj := 1) (j := 244) (k9 := 21) (t := []) (as := [(.inr (.inr (some 682)))]) (by decide +kernel) rfl (by decide +kernel) g20 rfl rfl rfl rfl rfl rfl (by decide +kernel) (by decide +kernel)) hD19 rfl ?_
  refine g_iload 3822 (show op 0 3820 = some (.iload 5, 2) by decide +kernel) rfl rfl ?_
  by_cases hc21 : v18 = v6
  · rw [if_pos hc21] at h
    refine g_icmpT 3827 (show op 0 3822 = some (.if_icmp .eq 5, 3) by decide +kernel) rfl (decide_eq_true hc21) ?_
    refine g_iload 3829 (show op 0 3827 = some (.iload 5, 2) by decide +kernel) rfl rfl ?_
    by_cases hc22 : v6 = 0
    · rw [if_pos hc22] at h
      refine g_ifF 3832 3844 (show op 0 3829 = some (.ifCond .ne 15, 3) by decide +kernel) rfl rfl (decide_eq_false (fun h9 => h9 hc22)) ?_
      refine g_aload_n 3833 (show op 0 3832 = some (.aload_n 3, 1) by decide +kernel) rfl rfl ?_
      refine g_iconst 3834 (show op 0 3833 = some (.iconst 0, 1) by decide +kernel) rfl rfl ?_
      refine g_laload 3835 1 (show op 0 3834 = some (.laload, 1) by decide +kernel) rfl (by decide +kernel) (by decide) ?_
      refine g_iload 3837 (show op 0 3835 = some (.iload 6, 2) by decide +kernel) rfl rfl ?_
      refine g_i2l 3838 (show op 0 3837 = some (.i2l, 1) by decide +kernel) rfl ?_
      refine g_lcmp 3839 (show op 0 3838 = some (.lcmp, 1) by decide +kernel) rfl ?_
      by_cases hc23 : (if v14 < (s17 726 (0 : Int).toNat) then 1 else if (s17 726 (0 : Int).toNat) = v14 then 0 else -1) = 0
      · rw [if_pos hc23] at h
        refine g_ifT 3844 (show op 0 3839 = some (.ifCond .eq 5, 3) by decide +kernel) rfl (decide_eq_true hc23) ?_
        exact h
      · rw [if_neg hc23] at h
        refine g_ifF 3842 3844 (show op 0 3839 = some (.ifCond .eq 5, 3) by decide +kernel) rfl rfl (decide_eq_false hc23) ?_
        refine g_iconst 3843 (show op 0 3842 = some (.iconst 0, 1) by decide +kernel) rfl rfl ?_
        exact (g_zret (show op 0 3843 = some (.ireturn, 1) by decide +kernel) (by decide +kernel) (by decide) h)
    · rw [if_neg hc22] at h
      refine g_ifT 3844 (show op 0 3829 = some (.ifCond .ne 15, 3) by decide +kernel) rfl (decide_eq_true hc22) ?_
      exact h
  · rw [if_neg hc21] at h
    refine g_icmpF 3825 3827 (show op 0 3822 = some (.if_icmp .eq 5, 3) by decide +kernel) rfl rfl (decide_eq_false hc21) ?_
    refine g_iconst 3826 (show op 0 3825 = some (.iconst 0, 1) by decide +kernel) rfl rfl ?_
    exact (g_zret (show op 0 3826 = some (.ireturn, 1) by decide +kernel) (by decide +kernel) (by decide) h)
theorem b0_3847 {x4 : Int} {d5 : Option AV} {d6 : Option AV} {k : Nat} {n : Nat} {σ : Sg} {o : Rs} (h : (-2147483648 ≤ (x4 + 1) ∧ (x4 + 1) ≤ 2147483647) ∧ (0 ≤ (x4 + 1) ∧ (x4 + 1) < σ (SCR + 1) 0) ∧ (-2147483648 ≤ (x4 + 2) ∧ (x4 + 2) ≤ 2147483647) ∧ (0 ≤ (x4 + 2) ∧ (x4 + 2) < σ (SCR + 1) 0) ∧ (-2147483648 ≤ (x4 + 3) ∧ (x4 + 3) ≤ 2147483647) ∧ (0 ≤ (x4 + 3) ∧ (x4 + 3) < σ (SCR + 1) 0) ∧ ((k + 4) ≤ 601024 ∧ (n + 24) ≤ 7293034) ∧ (∃ (v8 : Int) (s7 : Sg), Dd 442 [(.inr (.inr (some 0))), (.inl (σ SCR ((x4 + 1)).toNat)), (.inl (σ SCR ((x4 + 2)).toNat)), (.inl (σ SCR ((x4 + 3)).toNat)), (.inr (.inr (some 726)))] σ (.inl (some (.inl v8)), s7) ∧ (-2147483648 ≤ (x4 + 1) ∧ (x4 + 1) ≤ 2147483647) ∧ (0 ≤ (x4 + 1) ∧ (x4 + 1) < s7 (SCR + 1) 0) ∧ (-2147483648 ≤ (x4 + 2) ∧ (x4 + 2) ≤ 2147483647) ∧ (0 ≤ (x4 + 2) ∧ (x4 + 2) < s7 (SCR + 1) 0) ∧ (-2147483648 ≤ (x4 + 3) ∧ (x4 + 3) ≤ 2147483647) ∧ (0 ≤ (x4 + 3) ∧ (x4 + 3) < s7 (SCR + 1) 0) ∧ ((k + 4) ≤ 601024 ∧ (n + 24) ≤ 7293034) ∧ (∃ (v18 : Int) (s17 : Sg), Dd 389 [(.inr (.inr (some 682))), (.inl (s7 SCR ((x4 + 1)).toNat)), (.inl (s7 SCR ((x4 + 2)).toNat)), (.inl (s7 SCR ((x4 + 3)).toNat))] s7 (.inl (some (.inl v18)), s17) ∧ ((k + 4) ≤ 601024 ∧ (n + 24) ≤ 7293034) ∧ (∃ (v22 : Int) (s21 : Sg), Dd 244 [(.inr (.inr (some 682)))] s17 (.inl (some (.inl v22)), s21) ∧ (if v22 = v8 then (if v8 = 0 then (if (if v18 < (s21 726 (0 : Int).toNat) then 1 else if (s21 726 (0 : Int).toNat) = v18 then 0 else -1) = 0 then C0_3924 x4 (some (.inl v8)) (some (.inl v18)) (k + 4) (n + 24) s21 o else o = (.inl (some (.inl 0)), s21)) else C0_3924 x4 (some (.inl v8)) (some (.inl v18)) (k + 4) (n + 24) s21 o) else o = (.inl (some (.inl 0)), s21)))))) : C0_3847 x4 d5 d6 k n σ o := by
  show Gd 0 3847 [(some (.inr (.inr (some SCR)))), (some (.inr (.inr (some 0)))), (some (.inr (.inr (some 682)))), (some (.inr (.inr (some 726)))), (some (.inl x4)), d5, d6] [] σ k n o
  refine g_aload_n 3848 (show op 0 3847 = some (.aload_n 1, 1) by decide +kernel) rfl rfl ?_
  refine g_aload_n 3849 (show op 0 3848 = some (.aload_n 0, 1) by decide +kernel) rfl rfl ?_
  refine g_iload 3851 (show op 0 3849 = some (.iload 4, 2) by decide +kernel) rfl rfl ?_
  refine g_iconst 3852 (show op 0 3851 = some (.iconst 1, 1) by decide +kernel) rfl rfl ?_
  obtain ⟨g1, h⟩ := h
  refine g_iadd 3853 (show op 0 3852 = some (.iadd, 1) by decide +kernel) rfl g1 ?_
  obtain ⟨g2, h⟩ := h
  refine g_scr 3854 (show op 0 3853 = some (.iaload, 1) by decide +kernel) rfl g2 ?_
  refine g_aload_n 3855 (show op 0 3854 = some (.aload_n 0, 1) by decide +kernel) rfl rfl ?_
  refine g_iload 3857 (show op 0 3855 = some (.iload 4, 2) by decide +kernel) rfl rfl ?_
  refine g_iconst 3858 (show op 0 3857 = some (.iconst 2, 1) by decide +kernel) rfl rfl ?_
  obtain ⟨g3, h⟩ := h
  refine g_iadd 3859 (show op 0 3858 = some (.iadd, 1) by decide +kernel) rfl g3 ?_
  obtain ⟨g4, h⟩ := h
  refine g_scr 3860 (show op 0 3859 = some (.iaload, 1) by decide +kernel) rfl g4 ?_
  refine g_aload_n 3861 (show op 0 3860 = some (.aload_n 0, 1) by decide +kernel) rfl rfl ?_
  refine g_iload 3863 (show op 0 3861 = some (.iload 4, 2) by decide +kernel) rfl rfl ?_
  refine g_iconst 3864 (show op 0 3863 = some (.iconst 3, 1) by decide +kernel) rfl rfl ?_
  obtain ⟨g5, h⟩ := h
  refine g_iadd 3865 (show op 0 3864 = some (.iadd, 1) by decide +kernel) rfl g5 ?_
  obtain ⟨g6, h⟩ := h
  refine g_scr 3866 (show op 0 3865 = some (.iaload, 1) by decide +kernel) rfl g6 ?_
  refine g_aload_n 3867 (show op 0 3866 = some (.aload_n 3, 1) by decide +kernel) rfl rfl ?_
  obtain ⟨g10, h⟩ := h
  obtain ⟨v8, s7, hD9, h⟩ := h
  refine g_call 3870 [(.inl v8)] (show op 0 3867 = some (.invokestatic 365, 3) by decide +kernel) (call_stL (c := 4) (s := 24) (nj := 5) (j := 442) (t := []) (as := [(.inr (.inr (some 0))), (.inl (σ SCR ((x4 + 1)).toNat)), (.inl (σ SCR ((x4 + 2)).toNat)), (.inl (σ SCR ((x4 + 3)).toNat)), (.inr (.inr (some 726)))]) (by decide +kernel) rfl (by decide +kernel) g10 rfl rfl rfl rfl rfl) hD9 rfl ?_
  refine g_istore 3872 [(some (.inr (.inr (some SCR)))), (some (.inr (.inr (some 0)))), (some (.inr (.inr (some 682)))), (some (.inr (.inr (some 726)))), (some (.inl x4)), (some (.inl v8)), d6] (show op 0 3870 = some (.istore 5, 2) by decide +kernel) rfl rfl rfl ?_
  refine g_aload_n 3873 (show op 0 3872 = some (.aload_n 2, 1) by decide +kernel) rfl rfl ?_
  refine g_aload_n 3874 (show op 0 3873 = some (.aload_n 0, 1) by decide +kernel) rfl rfl ?_
  refine g_iload 3876 (show op 0 3874 = some (.iload 4, 2) by decide +kernel) rfl rfl ?_
  refine g_iconst 3877 (show op 0 3876 = some (.iconst 1, 1) by decide +kernel) rfl rfl ?_
  obtain ⟨g11, h⟩ := h
  refine g_iadd 3878 (show op 0 3877 = some (.iadd, 1) by decide +kernel) rfl g11 ?_
  obtain ⟨g12, h⟩ := h
  refine g_scr 3879 (show op 0 3878 = some (.iaload, 1) by decide +kernel) rfl g12 ?_
  refine g_aload_n 3880 (show op 0 3879 = some (.aload_n 0, 1) by decide +kernel) rfl rfl ?_
  refine g_iload 3882 (show op 0 3880 = some (.iload 4, 2) by decide +kernel) rfl rfl ?_
  refine g_iconst 3883 (show op 0 3882 = some (.iconst 2, 1) by decide +kernel) rfl rfl ?_
  obtain ⟨g13, h⟩ := h
  refine g_iadd 3884 (show op 0 3883 = some (.iadd, 1) by decide +kernel) rfl g13 ?_
  obtain ⟨g14, h⟩ := h
  refine g_scr 3885 (show op 0 3884 = some (.iaload, 1) by decide +kernel) rfl g14 ?_
  refine g_aload_n 3886 (show op 0 3885 = some (.aload_n 0, 1) by decide +kernel) rfl rfl ?_
  refine g_iload 3888 (show op 0 3886 = some (.iload 4, 2) by decide +kernel) rfl rfl ?_
  refine g_iconst 3889 (show op 0 3888 = some (.iconst 3, 1) by decide +kernel) rfl rfl ?_
  obtain ⟨g15, h⟩ := h
  refine g_iadd 3890 (show op 0 3889 = some (.iadd, 1) by decide +kernel) rfl g15 ?_
  obtain ⟨g16, h⟩ := h
  refine g_scr 3891 (show op 0 3890 = some (.iaload, 1) by decide +kernel) rfl g16 ?_
  obtain ⟨g20, h⟩ := h
  obtain ⟨v18, s17, hD19, h⟩ := h
  refine g_call 3894 [(.inl v18)] (show op 0 3891 = some (.invokevirtual 367, 3) by decide +kernel) (call_viL (c := 0) (s := 0) (nj := 4) (j := 389) (k9 := 21) (t := []) (as := [(.inr (.inr (some 682))), (.inl (s7 SCR ((x4 + 1)).toNat)), (.inl (s7 SCR ((x4 + 2)).toNat)), (.inl (s7 SCR ((x4 + 3)).toNat))]) (by decide +kernel) rfl (by decide +kernel) g20 rfl rfl rfl rfl rfl rfl (by decide +kernel) (by decide +kernel)) hD19 rfl ?_
  refine g_istore 3896 [(some (.inr (.inr (some SCR)))), (some (.inr (.inr (some 0)))), (some (.inr (.inr (some 682)))), (some (.inr (.inr (some 726)))), (some (.inl x4)), (some (.inl v8)), (some (.inl v18))] (show op 0 3894 = some (.istore 6, 2) by decide +kernel) rfl rfl rfl ?_
  refine g_aload_n 3897 (show op 0 3896 = some (.aload_n 2, 1) by decide +kernel) rfl rfl ?_
  obtain ⟨g24, h⟩ := h
  obtain ⟨v22, s21, hD23, h⟩ := h
  refine g_call 3900 [(.inl v22)] (show op 0 3897 = some (.invokevirtual 194, 3) by decide +kernel) (call_viL (c := 0) (s := 0) (nj := 1) (j := 244) (k9 := 21) (t := []) (as := [(.inr (.inr (some 682)))]) (by decide +kernel) rfl (by decide +kernel) g24 rfl rfl rfl rfl rfl rfl (by decide +kernel) (by decide +kernel)) hD23 rfl ?_
  refine g_iload 3902 (show op 0 3900 = some (.iload 5, 2) by decide +kernel) rfl rfl ?_
  by_cases hc25 : v22 = v8
  · rw [if_pos hc25] at h
    refine g_icmpT 3907 (show op 0 3902 = some (.if_icmp .eq 5, 3) by decide +kernel) rfl (decide_eq_true hc25) ?_
    refine g_iload 3909 (show op 0 3907 = some (.iload 5, 2) by decide +kernel) rfl rfl ?_
    by_cases hc26 : v8 = 0
    · rw [if_pos hc26] at h
      refine g_ifF 3912 3924 (show op 0 3909 = some (.ifCond .ne 15, 3) by decide +kernel) rfl rfl (decide_eq_false (fun h9 => h9 hc26)) ?_
      refine g_aload_n 3913 (show op 0 3912 = some (.aload_n 3, 1) by decide +kernel) rfl rfl ?_
      refine g_iconst 3914 (show op 0 3913 = some (.iconst 0, 1) by decide +kernel) rfl rfl ?_
      refine g_laload 3915 1 (show op 0 3914 = some (.laload, 1) by decide +kernel) rfl (by decide +kernel) (by decide) ?_
      refine g_iload 3917 (show op 0 3915 = some (.iload 6, 2) by decide +kernel) rfl rfl ?_
      refine g_i2l 3918 (show op 0 3917 = some (.i2l, 1) by decide +kernel) rfl ?_
      refine g_lcmp 3919 (show op 0 3918 = some (.lcmp, 1) by decide +kernel) rfl ?_
      by_cases hc27 : (if v18 < (s21 726 (0 : Int).toNat) then 1 else if (s21 726 (0 : Int).toNat) = v18 then 0 else -1) = 0
      · rw [if_pos hc27] at h
        refine g_ifT 3924 (show op 0 3919 = some (.ifCond .eq 5, 3) by decide +kernel) rfl (decide_eq_true hc27) ?_
        exact h
      · rw [if_neg hc27] at h
        refine g_ifF 3922 3924 (show op 0 3919 = some (.ifCond .eq 5, 3) by decide +kernel) rfl rfl (decide_eq_false hc27) ?_
        refine g_iconst 3923 (show op 0 3922 = some (.iconst 0, 1) by decide +kernel) rfl rfl ?_
        exact (g_zret (show op 0 3923 = some (.ireturn, 1) by decide +kernel) (by decide +kernel) (by decide) h)
    · rw [if_neg hc26] at h
      refine g_ifT 3924 (show op 0 3909 = some (.ifCond .ne 15, 3) by decide +kernel) rfl (decide_eq_true hc26) ?_
      exact h
  · rw [if_neg hc25] at h
    refine g_icmpF 3905 3907 (show op 0 3902 = some (.if_icmp .eq 5, 3) by decide +kernel) rfl rfl (decide_eq_false hc25) ?_
    refine g_iconst 3906 (show op 0 3905 = some (.iconst 0, 1) by decide +kernel) rfl rfl ?_
    exact (g_zret (show op 0 3906 = some (.ireturn, 1) by decide +kernel) (by decide +kernel) (by decide) h)
theorem b0_3927 {x4 : Int} {d5 : Option AV} {d6 : Option AV} {k : Nat} {n : Nat} {σ : Sg} {o : Rs} (h : (-2147483648 ≤ (x4 + 6) ∧ (x4 + 6) ≤ 2147483647) ∧ C0_23 (x4 + 6) d5 d6 k n σ o) : C0_3927 x4 d5 d6 k n σ o := by
  show Gd 0 3927 [(some (.inr (.inr (some SCR)))), (some (.inr (.inr (some 0)))), (some (.inr (.inr (some 682)))), (some (.inr (.inr (some 726)))), (some (.inl x4)), d5, d6] [] σ k n o
  obtain ⟨g1, h⟩ := h
  refine g_iinc 3930 [(some (.inr (.inr (some SCR)))), (some (.inr (.inr (some 0)))), (some (.inr (.inr (some 682)))), (some (.inr (.inr (some 726)))), (some (.inl (x4 + 6))), d5, d6] (show op 0 3927 = some (.iinc 4 6, 3) by decide +kernel) rfl rfl g1 rfl ?_
  refine g_goto 23 (show op 0 3930 = some (.goto (-3907), 3) by decide +kernel) rfl ?_
  exact h
theorem b0_353 {x4 : Int} {d5 : Option AV} {d6 : Option AV} {k : Nat} {n : Nat} {σ : Sg} {o : Rs} (h : C0_3927 x4 d5 d6 k n σ o) : C0_353 x4 d5 d6 k n σ o := by
  show Gd 0 353 [(some (.inr (.inr (some SCR)))), (some (.inr (.inr (some 0)))), (some (.inr (.inr (some 682)))), (some (.inr (.inr (some 726)))), (some (.inl x4)), d5, d6] [] σ k n o
  refine g_goto 3927 (show op 0 353 = some (.goto 3574, 3) by decide +kernel) rfl ?_
  exact h
theorem b0_421 {x4 : Int} {d5 : Option AV} {d6 : Option AV} {k : Nat} {n : Nat} {σ : Sg} {o : Rs} (h : C0_3927 x4 d5 d6 k n σ o) : C0_421 x4 d5 d6 k n σ o := by
  show Gd 0 421 [(some (.inr (.inr (some SCR)))), (some (.inr (.inr (some 0)))), (some (.inr (.inr (some 682)))), (some (.inr (.inr (some 726)))), (some (.inl x4)), d5, d6] [] σ k n o
  refine g_goto 3927 (show op 0 421 = some (.goto 3506, 3) by decide +kernel) rfl ?_
  exact h
theorem b0_489 {x4 : Int} {d5 : Option AV} {d6 : Option AV} {k : Nat} {n : Nat} {σ : Sg} {o : Rs} (h : C0_3927 x4 d5 d6 k n σ o) : C0_489 x4 d5 d6 k n σ o := by
  show Gd 0 489 [(some (.inr (.inr (some SCR)))), (some (.inr (.inr (some 0)))), (some (.inr (.inr (some 682)))), (some (.inr (.inr (some 726)))), (some (.inl x4)), d5, d6] [] σ k n o
  refine g_goto 3927 (show op 0 489 = some (.goto 3438, 3) by decide +kernel) rfl ?_
  exact h
theorem b0_545 {x4 : Int} {d5 : Option AV} {d6 : Option AV} {k : Nat} {n : Nat} {σ : Sg} {o : Rs} (h : C0_3927 x4 d5 d6 k n σ o) : C0_545 x4 d5 d6 k n σ o := by
  show Gd 0 545 [(some (.inr (.inr (some SCR)))), (some (.inr (.inr (some 0)))), (some (.inr (.inr (some 682)))), (some (.inr (.inr (some 726)))), (some (.inl x4)), d5, d6] [] σ k n o
  refine g_goto 3927 (show op 0 545 = some (.goto 3382, 3) by decide +kernel) rfl ?_
  exact h
theorem b0_613 {x4 : Int} {d5 : Option AV} {d6 : Option AV} {k : Nat} {n : Nat} {σ : Sg} {o : Rs} (h : C0_3927 x4 d5 d6 k n σ o) : C0_613 x4 d5 d6 k n σ o := by
  show Gd 0 613 [(some (.inr (.inr (some SCR)))), (some (.inr (.inr (some 0)))), (some (.inr (.inr (some 682)))), (some (.inr (.inr (some 726)))), (some (.inl x4)), d5, d6] [] σ k n o
  refine g_goto 3927 (show op 0 613 = some (.goto 3314, 3) by decide +kernel) rfl ?_
  exact h
theorem b0_681 {x4 : Int} {d5 : Option AV} {d6 : Option AV} {k : Nat} {n : Nat} {σ : Sg} {o : Rs} (h : C0_3927 x4 d5 d6 k n σ o) : C0_681 x4 d5 d6 k n σ o := by
  show Gd 0 681 [(some (.inr (.inr (some SCR)))), (some (.inr (.inr (some 0)))), (some (.inr (.inr (some 682)))), (some (.inr (.inr (some 726)))), (some (.inl x4)), d5, d6] [] σ k n o
  refine g_goto 3927 (show op 0 681 = some (.goto 3246, 3) by decide +kernel) rfl ?_
  exact h
theorem b0_773 {x4 : Int} {d5 : Option AV} {d6 : Option AV} {k : Nat} {n : Nat} {σ : Sg} {o : Rs} (h : C0_3927 x4 d5 d6 k n σ o) : C0_773 x4 d5 d6 k n σ o := by
  show Gd 0 773 [(some (.inr (.inr (some SCR)))), (some (.inr (.inr (some 0)))), (some (.inr (.inr (some 682)))), (some (.inr (.inr (some 726)))), (some (.inl x4)), d5, d6] [] σ k n o
  refine g_goto 3927 (show op 0 773 = some (.goto 3154, 3) by decide +kernel) rfl ?_
  exact h
theorem b0_853 {x4 : Int} {d5 : Option AV} {d6 : Option AV} {k : Nat} {n : Nat} {σ : Sg} {o : Rs} (h : C0_3927 x4 d5 d6 k n σ o) : C0_853 x4 d5 d6 k n σ o := by
  show Gd 0 853 [(some (.inr (.inr (some SCR)))), (some (.inr (.inr (some 0)))), (some (.inr (.inr (some 682)))), (some (.inr (.inr (some 726)))), (some (.inl x4)), d5, d6] [] σ k n o
  refine g_goto 3927 (show op 0 853 = some (.goto 3074, 3) by decide +kernel) rfl ?_
  exact h
theorem b0_921 {x4 : Int} {d5 : Option AV} {d6 : Option AV} {k : Nat} {n : Nat} {σ : Sg} {o : Rs} (h : C0_3927 x4 d5 d6 k n σ o) : C0_921 x4 d5 d6 k n σ o := by
  show Gd 0 921 [(some (.inr (.inr (some SCR)))), (some (.inr (.inr (some 0)))), (some (.inr (.inr (some 682)))), (some (.inr (.inr (some 726)))), (some (.inl x4)), d5, d6] [] σ k n o
  refine g_goto 3927 (show op 0 921 = some (.goto 3006, 3) by decide +kernel) rfl ?_
  exact h
theorem b0_1001 {x4 : Int} {d5 : Option AV} {d6 : Option AV} {k : Nat} {n : Nat} {σ : Sg} {o : Rs} (h : C0_3927 x4 d5 d6 k n σ o) : C0_1001 x4 d5 d6 k n σ o := by
  show Gd 0 1001 [(some (.inr (.inr (some SCR)))), (some (.inr (.inr (some 0)))), (some (.inr (.inr (some 682)))), (some (.inr (.inr (some 726)))), (some (.inl x4)), d5, d6] [] σ k n o
  refine g_goto 3927 (show op 0 1001 = some (.goto 2926, 3) by decide +kernel) rfl ?_
  exact h
theorem b0_1057 {x4 : Int} {d5 : Option AV} {d6 : Option AV} {k : Nat} {n : Nat} {σ : Sg} {o : Rs} (h : C0_3927 x4 d5 d6 k n σ o) : C0_1057 x4 d5 d6 k n σ o := by
  show Gd 0 1057 [(some (.inr (.inr (some SCR)))), (some (.inr (.inr (some 0)))), (some (.inr (.inr (some 682)))), (some (.inr (.inr (some 726)))), (some (.inl x4)), d5, d6] [] σ k n o
  refine g_goto 3927 (show op 0 1057 = some (.goto 2870, 3) by decide +kernel) rfl ?_
  exact h
theorem b0_1125 {x4 : Int} {d5 : Option AV} {d6 : Option AV} {k : Nat} {n : Nat} {σ : Sg} {o : Rs} (h : C0_3927 x4 d5 d6 k n σ o) : C0_1125 x4 d5 d6 k n σ o := by
  show Gd 0 1125 [(some (.inr (.inr (some SCR)))), (some (.inr (.inr (some 0)))), (some (.inr (.inr (some 682)))), (some (.inr (.inr (some 726)))), (some (.inl x4)), d5, d6] [] σ k n o
  refine g_goto 3927 (show op 0 1125 = some (.goto 2802, 3) by decide +kernel) rfl ?_
  exact h
theorem b0_1194 {x4 : Int} {d5 : Option AV} {d6 : Option AV} {y0 : Int} {y1 : Int} {k : Nat} {n : Nat} {σ : Sg} {o : Rs} (h : (if (if y1 < y0 then 1 else if y0 = y1 then 0 else -1) = 0 then C0_1200 x4 d5 d6 k n σ o else o = (.inl (some (.inl 0)), σ))) : C0_1194 x4 d5 d6 y0 y1 k n σ o := by
  show Gd 0 1194 [(some (.inr (.inr (some SCR)))), (some (.inr (.inr (some 0)))), (some (.inr (.inr (some 682)))), (some (.inr (.inr (some 726)))), (some (.inl x4)), d5, d6] [(.inr (.inl y1)), (.inr (.inl y0))] σ k n o
  refine g_lcmp 1195 (show op 0 1194 = some (.lcmp, 1) by decide +kernel) rfl ?_
  by_cases hc1 : (if y1 < y0 then 1 else if y0 = y1 then 0 else -1) = 0
  · rw [if_pos hc1] at h
    refine g_ifT 1200 (show op 0 1195 = some (.ifCond .eq 5, 3) by decide +kernel) rfl (decide_eq_true hc1) ?_
    exact h
  · rw [if_neg hc1] at h
    refine g_ifF 1198 1200 (show op 0 1195 = some (.ifCond .eq 5, 3) by decide +kernel) rfl rfl (decide_eq_false hc1) ?_
    refine g_iconst 1199 (show op 0 1198 = some (.iconst 0, 1) by decide +kernel) rfl rfl ?_
    exact (g_zret (show op 0 1199 = some (.ireturn, 1) by decide +kernel) (by decide +kernel) (by decide) h)
theorem b0_1200 {x4 : Int} {d5 : Option AV} {d6 : Option AV} {k : Nat} {n : Nat} {σ : Sg} {o : Rs} (h : C0_3927 x4 d5 d6 k n σ o) : C0_1200 x4 d5 d6 k n σ o := by
  show Gd 0 1200 [(some (.inr (.inr (some SCR)))), (some (.inr (.inr (some 0)))), (some (.inr (.inr (some 682)))), (some (.inr (.inr (some 726)))), (some (.inl x4)), d5, d6] [] σ k n o
  refine g_goto 3927 (show op 0 1200 = some (.goto 2727, 3) by decide +kernel) rfl ?_
  exact h
theorem b0_1230 {x4 : Int} {d5 : Option AV} {d6 : Option AV} {y1 : Int} {y2 : Int} {y3 : Int} {k : Nat} {n : Nat} {σ : Sg} {o : Rs} (h : ((k + 5) ≤ 601024 ∧ (n + 30) ≤ 7293034) ∧ (∃ (v2 : Int) (s1 : Sg), Dd 403 [(.inr (.inr (some 0))), (.inl y1), (.inl y2), (.inl y3), (.inr (.inr (some 726)))] σ (.inl (some (.inl v2)), s1) ∧ (-2147483648 ≤ (x4 + 1) ∧ (x4 + 1) ≤ 2147483647) ∧ (0 ≤ (x4 + 1) ∧ (x4 + 1) < s1 (SCR + 1) 0) ∧ (-2147483648 ≤ (x4 + 2) ∧ (x4 + 2) ≤ 2147483647) ∧ (0 ≤ (x4 + 2) ∧ (x4 + 2) < s1 (SCR + 1) 0) ∧ (-2147483648 ≤ (x4 + 3) ∧ (x4 + 3) ≤ 2147483647) ∧ (0 ≤ (x4 + 3) ∧ (x4 + 3) < s1 (SCR + 1) 0) ∧ C0_1263 x4 v2 d6 (s1 SCR ((x4 + 1)).toNat) (s1 SCR ((x4 + 2)).toNat) (if (s1 SCR ((x4 + 3)).toNat) = 0 then 0 else 1) (k + 5) (n + 30) s1 o)) : C0_1230 x4 d5 d6 y1 y2 y3 k n σ o := by
  show Gd 0 1230 [(some (.inr (.inr (some SCR)))), (some (.inr (.inr (some 0)))), (some (.inr (.inr (some 682)))), (some (.inr (.inr (some 726)))), (some (.inl x4)), d5, d6] [(.inl y3), (.inl y2), (.inl y1), (.inr (.inr (some 0)))] σ k n o
  refine g_aload_n 1231 (show op 0 1230 = some (.aload_n 3, 1) by decide +kernel) rfl rfl ?_
  obtain ⟨g4, h⟩ := h
  obtain ⟨v2, s1, hD3, h⟩ := h
  refine g_call 1234 [(.inl v2)] (show op 0 1231 = some (.invokestatic 236, 3) by decide +kernel) (call_stL (c := 5) (s := 30) (nj := 5) (j := 403) (t := []) (as := [(.inr (.inr (some 0))), (.inl y1), (.inl y2), (.inl y3), (.inr (.inr (some 726)))]) (by decide +kernel) rfl (by decide +kernel) g4 rfl rfl rfl rfl rfl) hD3 rfl ?_
  refine g_istore 1236 [(some (.inr (.inr (some SCR)))), (some (.inr (.inr (some 0)))), (some (.inr (.inr (some 682)))), (some (.inr (.inr (some 726)))), (some (.inl x4)), (some (.inl v2)), d6] (show op 0 1234 = some (.istore 5, 2) by decide +kernel) rfl rfl rfl ?_
  refine g_aload_n 1237 (show op 0 1236 = some (.aload_n 2, 1) by decide +kernel) rfl rfl ?_
  refine g_aload_n 1238 (show op 0 1237 = some (.aload_n 0, 1) by decide +kernel) rfl rfl ?_
  refine g_iload 1240 (show op 0 1238 = some (.iload 4, 2) by decide +kernel) rfl rfl ?_
  refine g_iconst 1241 (show op 0 1240 = some (.iconst 1, 1) by decide +kernel) rfl rfl ?_
  obtain ⟨g5, h⟩ := h
  refine g_iadd 1242 (show op 0 1241 = some (.iadd, 1) by decide +kernel) rfl g5 ?_
  obtain ⟨g6, h⟩ := h
  refine g_scr 1243 (show op 0 1242 = some (.iaload, 1) by decide +kernel) rfl g6 ?_
  refine g_aload_n 1244 (show op 0 1243 = some (.aload_n 0, 1) by decide +kernel) rfl rfl ?_
  refine g_iload 1246 (show op 0 1244 = some (.iload 4, 2) by decide +kernel) rfl rfl ?_
  refine g_iconst 1247 (show op 0 1246 = some (.iconst 2, 1) by decide +kernel) rfl rfl ?_
  obtain ⟨g7, h⟩ := h
  refine g_iadd 1248 (show op 0 1247 = some (.iadd, 1) by decide +kernel) rfl g7 ?_
  obtain ⟨g8, h⟩ := h
  refine g_scr 1249 (show op 0 1248 = some (.iaload, 1) by decide +kernel) rfl g8 ?_
  refine g_aload_n 1250 (show op 0 1249 = some (.aload_n 0, 1) by decide +kernel) rfl rfl ?_
  refine g_iload 1252 (show op 0 1250 = some (.iload 4, 2) by decide +kernel) rfl rfl ?_
  refine g_iconst 1253 (show op 0 1252 = some (.iconst 3, 1) by decide +kernel) rfl rfl ?_
  obtain ⟨g9, h⟩ := h
  refine g_iadd 1254 (show op 0 1253 = some (.iadd, 1) by decide +kernel) rfl g9 ?_
  obtain ⟨g10, h⟩ := h
  refine g_scr 1255 (show op 0 1254 = some (.iaload, 1) by decide +kernel) rfl g10 ?_
  by_cases hc11 : (s1 SCR ((x4 + 3)).toNat) = 0
  · refine g_ifT 1262 (show op 0 1255 = some (.ifCond .eq 7, 3) by decide +kernel) rfl (decide_eq_true hc11) ?_
    refine g_iconst 1263 (show op 0 1262 = some (.iconst 0, 1) by decide +kernel) rfl rfl ?_
    have h9 := h; simp only [if_pos hc11] at h9; exact h9
  · refine g_ifF 1258 1262 (show op 0 1255 = some (.ifCond .eq 7, 3) by decide +kernel) rfl rfl (decide_eq_false hc11) ?_
    refine g_iconst 1259 (show op 0 1258 = some (.iconst 1, 1) by decide +kernel) rfl rfl ?_
    refine g_goto 1263 (show op 0 1259 = some (.goto 4, 3) by decide +kernel) rfl ?_
    have h9 := h; simp only [if_neg hc11] at h9; exact h9
theorem b0_1338 {x4 : Int} {d5 : Option AV} {d6 : Option AV} {y1 : Int} {y2 : Int} {y3 : Int} {y4 : Int} {y5 : Int} {k : Nat} {n : Nat} {σ : Sg} {o : Rs} (h : ((k + 6) ≤ 601024 ∧ (n + 36) ≤ 7293034) ∧ (∃ (v2 : Int) (s1 : Sg), Dd 404 [(.inr (.inr (some 0))), (.inl y1), (.inl y2), (.inl y3), (.inl y4), (.inl y5), (.inr (.inr (some 726)))] σ (.inl (some (.inl v2)), s1) ∧ (-2147483648 ≤ (x4 + 1) ∧ (x4 + 1) ≤ 2147483647) ∧ (0 ≤ (x4 + 1) ∧ (x4 + 1) < s1 (SCR + 1) 0) ∧ (-2147483648 ≤ (x4 + 2) ∧ (x4 + 2) ≤ 2147483647) ∧ (0 ≤ (x4 + 2) ∧ (x4 + 2) < s1 (SCR + 1) 0) ∧ (-2147483648 ≤ (x4 + 3) ∧ (x4 + 3) ≤ 2147483647) ∧ (0 ≤ (x4 + 3) ∧ (x4 + 3) < s1 (SCR + 1) 0) ∧ (-2147483648 ≤ (x4 + 4) ∧ (x4 + 4) ≤ 2147483647) ∧ (0 ≤ (x4 + 4) ∧ (x4 + 4) < s1 (SCR + 1) 0) ∧ (-2147483648 ≤ (x4 + 5) ∧ (x4 + 5) ≤ 2147483647) ∧ (0 ≤ (x4 + 5) ∧ (x4 + 5) < s1 (SCR + 1) 0) ∧ C0_1383 x4 v2 d6 (s1 SCR ((x4 + 1)).toNat) (s1 SCR ((x4 + 2)).toNat) (s1 SCR ((x4 + 3)).toNat) (s1 SCR ((x4 + 4)).toNat) (if (s1 SCR ((x4 + 5)).toNat) = 0 then 0 else 1) (k + 6) (n + 36) s1 o)) : C0_1338 x4 d5 d6 y1 y2 y3 y4 y5 k n σ o := by
  show Gd 0 1338 [(some (.inr (.inr (some SCR)))), (some (.inr (.inr (some 0)))), (some (.inr (.inr (some 682)))), (some (.inr (.inr (some 726)))), (some (.inl x4)), d5, d6] [(.inl y5), (.inl y4), (.inl y3), (.inl y2), (.inl y1), (.inr (.inr (some 0)))] σ k n o
  refine g_aload_n 1339 (show op 0 1338 = some (.aload_n 3, 1) by decide +kernel) rfl rfl ?_
  obtain ⟨g4, h⟩ := h
  obtain ⟨v2, s1, hD3, h⟩ := h
  refine g_call 1342 [(.inl v2)] (show op 0 1339 = some (.invokestatic 240, 3) by decide +kernel) (call_stL (c := 6) (s := 36) (nj := 7) (j := 404) (t := []) (as := [(.inr (.inr (some 0))), (.inl y1), (.inl y2), (.inl y3), (.inl y4), (.inl y5), (.inr (.inr (some 726)))]) (by decide +kernel) rfl (by decide +kernel) g4 rfl rfl rfl rfl rfl) hD3 rfl ?_
  refine g_istore 1344 [(some (.inr (.inr (some SCR)))), (some (.inr (.inr (some 0)))), (some (.inr (.inr (some 682)))), (some (.inr (.inr (some 726)))), (some (.inl x4)), (some (.inl v2)), d6] (show op 0 1342 = some (.istore 5, 2) by decide +kernel) rfl rfl rfl ?_
  refine g_aload_n 1345 (show op 0 1344 = some (.aload_n 2, 1) by decide +kernel) rfl rfl ?_
  refine g_aload_n 1346 (show op 0 1345 = some (.aload_n 0, 1) by decide +kernel) rfl rfl ?_
  refine g_iload 1348 (show op 0 1346 = some (.iload 4, 2) by decide +kernel) rfl rfl ?_
  refine g_iconst 1349 (show op 0 1348 = some (.iconst 1, 1) by decide +kernel) rfl rfl ?_
  obtain ⟨g5, h⟩ := h
  refine g_iadd 1350 (show op 0 1349 = some (.iadd, 1) by decide +kernel) rfl g5 ?_
  obtain ⟨g6, h⟩ := h
  refine g_scr 1351 (show op 0 1350 = some (.iaload, 1) by decide +kernel) rfl g6 ?_
  refine g_aload_n 1352 (show op 0 1351 = some (.aload_n 0, 1) by decide +kernel) rfl rfl ?_
  refine g_iload 1354 (show op 0 1352 = some (.iload 4, 2) by decide +kernel) rfl rfl ?_
  refine g_iconst 1355 (show op 0 1354 = some (.iconst 2, 1) by decide +kernel) rfl rfl ?_
  obtain ⟨g7, h⟩ := h
  refine g_iadd 1356 (show op 0 1355 = some (.iadd, 1) by decide +kernel) rfl g7 ?_
  obtain ⟨g8, h⟩ := h
  refine g_scr 1357 (show op 0 1356 = some (.iaload, 1) by decide +kernel) rfl g8 ?_
  refine g_aload_n 1358 (show op 0 1357 = some (.aload_n 0, 1) by decide +kernel) rfl rfl ?_
  refine g_iload 1360 (show op 0 1358 = some (.iload 4, 2) by decide +kernel) rfl rfl ?_
  refine g_iconst 1361 (show op 0 1360 = some (.iconst 3, 1) by decide +kernel) rfl rfl ?_
  obtain ⟨g9, h⟩ := h
  refine g_iadd 1362 (show op 0 1361 = some (.iadd, 1) by decide +kernel) rfl g9 ?_
  obtain ⟨g10, h⟩ := h
  refine g_scr 1363 (show op 0 1362 = some (.iaload, 1) by decide +kernel) rfl g10 ?_
  refine g_aload_n 1364 (show op 0 1363 = some (.aload_n 0, 1) by decide +kernel) rfl rfl ?_
  refine g_iload 1366 (show op 0 1364 = some (.iload 4, 2) by decide +kernel) rfl rfl ?_
  refine g_iconst 1367 (show op 0 1366 = some (.iconst 4, 1) by decide +kernel) rfl rfl ?_
  obtain ⟨g11, h⟩ := h
  refine g_iadd 1368 (show op 0 1367 = some (.iadd, 1) by decide +kernel) rfl g11 ?_
  obtain ⟨g12, h⟩ := h
  refine g_scr 1369 (show op 0 1368 = some (.iaload, 1) by decide +kernel) rfl g12 ?_
  refine g_aload_n 1370 (show op 0 1369 = some (.aload_n 0, 1) by decide +kernel) rfl rfl ?_
  refine g_iload 1372 (show op 0 1370 = some (.iload 4, 2) by decide +kernel) rfl rfl ?_
  refine g_iconst 1373 (show op 0 1372 = some (.iconst 5, 1) by decide +kernel) rfl rfl ?_
  obtain ⟨g13, h⟩ := h
  refine g_iadd 1374 (show op 0 1373 = some (.iadd, 1) by decide +kernel) rfl g13 ?_
  obtain ⟨g14, h⟩ := h
  refine g_scr 1375 (show op 0 1374 = some (.iaload, 1) by decide +kernel) rfl g14 ?_
  by_cases hc15 : (s1 SCR ((x4 + 5)).toNat) = 0
  · refine g_ifT 1382 (show op 0 1375 = some (.ifCond .eq 7, 3) by decide +kernel) rfl (decide_eq_true hc15) ?_
    refine g_iconst 1383 (show op 0 1382 = some (.iconst 0, 1) by decide +kernel) rfl rfl ?_
    have h9 := h; simp only [if_pos hc15] at h9; exact h9
  · refine g_ifF 1378 1382 (show op 0 1375 = some (.ifCond .eq 7, 3) by decide +kernel) rfl rfl (decide_eq_false hc15) ?_
    refine g_iconst 1379 (show op 0 1378 = some (.iconst 1, 1) by decide +kernel) rfl rfl ?_
    refine g_goto 1383 (show op 0 1379 = some (.goto 4, 3) by decide +kernel) rfl ?_
    have h9 := h; simp only [if_neg hc15] at h9; exact h9
theorem b0_1453 {x4 : Int} {d5 : Option AV} {d6 : Option AV} {y1 : Int} {y2 : Int} {k : Nat} {n : Nat} {σ : Sg} {o : Rs} (h : (-2147483648 ≤ (x4 + 3) ∧ (x4 + 3) ≤ 2147483647) ∧ (0 ≤ (x4 + 3) ∧ (x4 + 3) < σ (SCR + 1) 0) ∧ ((k + 2) ≤ 601024 ∧ (n + 12) ≤ 7293034) ∧ (∃ (v4 : Int) (s3 : Sg), Dd 405 [(.inr (.inr (some 0))), (.inl y1), (.inl y2), (.inl (σ SCR ((x4 + 3)).toNat)), (.inr (.inr (some 726)))] σ (.inl (some (.inl v4)), s3) ∧ (-2147483648 ≤ (x4 + 1) ∧ (x4 + 1) ≤ 2147483647) ∧ (0 ≤ (x4 + 1) ∧ (x4 + 1) < s3 (SCR + 1) 0) ∧ (-2147483648 ≤ (x4 + 2) ∧ (x4 + 2) ≤ 2147483647) ∧ (0 ≤ (x4 + 2) ∧ (x4 + 2) < s3 (SCR + 1) 0) ∧ C0_1486 x4 v4 d6 (s3 SCR ((x4 + 1)).toNat) (if (s3 SCR ((x4 + 2)).toNat) = 0 then 0 else 1) (k + 2) (n + 12) s3 o)) : C0_1453 x4 d5 d6 y1 y2 k n σ o := by
  show Gd 0 1453 [(some (.inr (.inr (some SCR)))), (some (.inr (.inr (some 0)))), (some (.inr (.inr (some 682)))), (some (.inr (.inr (some 726)))), (some (.inl x4)), d5, d6] [(.inl y2), (.inl y1), (.inr (.inr (some 0)))] σ k n o
  refine g_aload_n 1454 (show op 0 1453 = some (.aload_n 0, 1) by decide +kernel) rfl rfl ?_
  refine g_iload 1456 (show op 0 1454 = some (.iload 4, 2) by decide +kernel) rfl rfl ?_
  refine g_iconst 1457 (show op 0 1456 = some (.iconst 3, 1) by decide +kernel) rfl rfl ?_
  obtain ⟨g1, h⟩ := h
  refine g_iadd 1458 (show op 0 1457 = some (.iadd, 1) by decide +kernel) rfl g1 ?_
  obtain ⟨g2, h⟩ := h
  refine g_scr 1459 (show op 0 1458 = some (.iaload, 1) by decide +kernel) rfl g2 ?_
  refine g_aload_n 1460 (show op 0 1459 = some (.aload_n 3, 1) by decide +kernel) rfl rfl ?_
  obtain ⟨g6, h⟩ := h
  obtain ⟨v4, s3, hD5, h⟩ := h
  refine g_call 1463 [(.inl v4)] (show op 0 1460 = some (.invokestatic 248, 3) by decide +kernel) (call_stL (c := 2) (s := 12) (nj := 5) (j := 405) (t := []) (as := [(.inr (.inr (some 0))), (.inl y1), (.inl y2), (.inl (σ SCR ((x4 + 3)).toNat)), (.inr (.inr (some 726)))]) (by decide +kernel) rfl (by decide +kernel) g6 rfl rfl rfl rfl rfl) hD5 rfl ?_
  refine g_istore 1465 [(some (.inr (.inr (some SCR)))), (some (.inr (.inr (some 0)))), (some (.inr (.inr (some 682)))), (some (.inr (.inr (some 726)))), (some (.inl x4)), (some (.inl v4)), d6] (show op 0 1463 = some (.istore 5, 2) by decide +kernel) rfl rfl rfl ?_
  refine g_aload_n 1466 (show op 0 1465 = some (.aload_n 2, 1) by decide +kernel) rfl rfl ?_
  refine g_aload_n 1467 (show op 0 1466 = some (.aload_n 0, 1) by decide +kernel) rfl rfl ?_
  refine g_iload 1469 (show op 0 1467 = some (.iload 4, 2) by decide +kernel) rfl rfl ?_
  refine g_iconst 1470 (show op 0 1469 = some (.iconst 1, 1) by decide +kernel) rfl rfl ?_
  obtain ⟨g7, h⟩ := h
  refine g_iadd 1471 (show op 0 1470 = some (.iadd, 1) by decide +kernel) rfl g7 ?_
  obtain ⟨g8, h⟩ := h
  refine g_scr 1472 (show op 0 1471 = some (.iaload, 1) by decide +kernel) rfl g8 ?_
  refine g_aload_n 1473 (show op 0 1472 = some (.aload_n 0, 1) by decide +kernel) rfl rfl ?_
  refine g_iload 1475 (show op 0 1473 = some (.iload 4, 2) by decide +kernel) rfl rfl ?_
  refine g_iconst 1476 (show op 0 1475 = some (.iconst 2, 1) by decide +kernel) rfl rfl ?_
  obtain ⟨g9, h⟩ := h
  refine g_iadd 1477 (show op 0 1476 = some (.iadd, 1) by decide +kernel) rfl g9 ?_
  obtain ⟨g10, h⟩ := h
  refine g_scr 1478 (show op 0 1477 = some (.iaload, 1) by decide +kernel) rfl g10 ?_
  by_cases hc11 : (s3 SCR ((x4 + 2)).toNat) = 0
  · refine g_ifT 1485 (show op 0 1478 = some (.ifCond .eq 7, 3) by decide +kernel) rfl (decide_eq_true hc11) ?_
    refine g_iconst 1486 (show op 0 1485 = some (.iconst 0, 1) by decide +kernel) rfl rfl ?_
    have h9 := h; simp only [if_pos hc11] at h9; exact h9
  · refine g_ifF 1481 1485 (show op 0 1478 = some (.ifCond .eq 7, 3) by decide +kernel) rfl rfl (decide_eq_false hc11) ?_
    refine g_iconst 1482 (show op 0 1481 = some (.iconst 1, 1) by decide +kernel) rfl rfl ?_
    refine g_goto 1486 (show op 0 1482 = some (.goto 4, 3) by decide +kernel) rfl ?_
    have h9 := h; simp only [if_neg hc11] at h9; exact h9
theorem b0_1593 {x4 : Int} {d5 : Option AV} {d6 : Option AV} {k : Nat} {n : Nat} {σ : Sg} {o : Rs} (h : C0_3927 x4 d5 d6 k n σ o) : C0_1593 x4 d5 d6 k n σ o := by
  show Gd 0 1593 [(some (.inr (.inr (some SCR)))), (some (.inr (.inr (some 0)))), (some (.inr (.inr (some 682)))), (some (.inr (.inr (some 726)))), (some (.inl x4)), d5, d6] [] σ k n o
  refine g_goto 3927 (show op 0 1593 = some (.goto 2334, 3) by decide +kernel) rfl ?_
  exact h
theorem b0_1649 {x4 : Int} {d5 : Option AV} {d6 : Option AV} {k : Nat} {n : Nat} {σ : Sg} {o : Rs} (h : C0_3927 x4 d5 d6 k n σ o) : C0_1649 x4 d5 d6 k n σ o := by
  show Gd 0 1649 [(some (.inr (.inr (some SCR)))), (some (.inr (.inr (some 0)))), (some (.inr (.inr (some 682)))), (some (.inr (.inr (some 726)))), (some (.inl x4)), d5, d6] [] σ k n o
  refine g_goto 3927 (show op 0 1649 = some (.goto 2278, 3) by decide +kernel) rfl ?_
  exact h
theorem b0_1729 {x4 : Int} {d5 : Option AV} {d6 : Option AV} {k : Nat} {n : Nat} {σ : Sg} {o : Rs} (h : C0_3927 x4 d5 d6 k n σ o) : C0_1729 x4 d5 d6 k n σ o := by
  show Gd 0 1729 [(some (.inr (.inr (some SCR)))), (some (.inr (.inr (some 0)))), (some (.inr (.inr (some 682)))), (some (.inr (.inr (some 726)))), (some (.inl x4)), d5, d6] [] σ k n o
  refine g_goto 3927 (show op 0 1729 = some (.goto 2198, 3) by decide +kernel) rfl ?_
  exact h
theorem b0_1797 {x4 : Int} {d5 : Option AV} {d6 : Option AV} {k : Nat} {n : Nat} {σ : Sg} {o : Rs} (h : C0_3927 x4 d5 d6 k n σ o) : C0_1797 x4 d5 d6 k n σ o := by
  show Gd 0 1797 [(some (.inr (.inr (some SCR)))), (some (.inr (.inr (some 0)))), (some (.inr (.inr (some 682)))), (some (.inr (.inr (some 726)))), (some (.inl x4)), d5, d6] [] σ k n o
  refine g_goto 3927 (show op 0 1797 = some (.goto 2130, 3) by decide +kernel) rfl ?_
  exact h
theorem b0_1866 {x4 : Int} {d5 : Option AV} {d6 : Option AV} {y0 : Int} {y1 : Int} {k : Nat} {n : Nat} {σ : Sg} {o : Rs} (h : (if (if y1 < y0 then 1 else if y0 = y1 then 0 else -1) = 0 then C0_1872 x4 d5 d6 k n σ o else o = (.inl (some (.inl 0)), σ))) : C0_1866 x4 d5 d6 y0 y1 k n σ o := by
  show Gd 0 1866 [(some (.inr (.inr (some SCR)))), (some (.inr (.inr (some 0)))), (some (.inr (.inr (some 682)))), (some (.inr (.inr (some 726)))), (some (.inl x4)), d5, d6] [(.inr (.inl y1)), (.inr (.inl y0))] σ k n o
  refine g_lcmp 1867 (show op 0 1866 = some (.lcmp, 1) by decide +kernel) rfl ?_
  by_cases hc1 : (if y1 < y0 then 1 else if y0 = y1 then 0 else -1) = 0
  · rw [if_pos hc1] at h
    refine g_ifT 1872 (show op 0 1867 = some (.ifCond .eq 5, 3) by decide +kernel) rfl (decide_eq_true hc1) ?_
    exact h
  · rw [if_neg hc1] at h
    refine g_ifF 1870 1872 (show op 0 1867 = some (.ifCond .eq 5, 3) by decide +kernel) rfl rfl (decide_eq_false hc1) ?_
    refine g_iconst 1871 (show op 0 1870 = some (.iconst 0, 1) by decide +kernel) rfl rfl ?_
    exact (g_zret (show op 0 1871 = some (.ireturn, 1) by decide +kernel) (by decide +kernel) (by decide) h)
theorem b0_1872 {x4 : Int} {d5 : Option AV} {d6 : Option AV} {k : Nat} {n : Nat} {σ : Sg} {o : Rs} (h : C0_3927 x4 d5 d6 k n σ o) : C0_1872 x4 d5 d6 k n σ o := by
  show Gd 0 1872 [(some (.inr (.inr (some SCR)))), (some (.inr (.inr (some 0)))), (some (.inr (.inr (some 682)))), (some (.inr (.inr (some 726)))), (some (.inl x4)), d5, d6] [] σ k n o
  refine g_goto 3927 (show op 0 1872 = some (.goto 2055, 3) by decide +kernel) rfl ?_
  exact h
theorem b0_1940 {x4 : Int} {d5 : Option AV} {d6 : Option AV} {k : Nat} {n : Nat} {σ : Sg} {o : Rs} (h : C0_3927 x4 d5 d6 k n σ o) : C0_1940 x4 d5 d6 k n σ o := by
  show Gd 0 1940 [(some (.inr (.inr (some SCR)))), (some (.inr (.inr (some 0)))), (some (.inr (.inr (some 682)))), (some (.inr (.inr (some 726)))), (some (.inl x4)), d5, d6] [] σ k n o
  refine g_goto 3927 (show op 0 1940 = some (.goto 1987, 3) by decide +kernel) rfl ?_
  exact h
theorem b0_2020 {x4 : Int} {d5 : Option AV} {d6 : Option AV} {k : Nat} {n : Nat} {σ : Sg} {o : Rs} (h : C0_3927 x4 d5 d6 k n σ o) : C0_2020 x4 d5 d6 k n σ o := by
  show Gd 0 2020 [(some (.inr (.inr (some SCR)))), (some (.inr (.inr (some 0)))), (some (.inr (.inr (some 682)))), (some (.inr (.inr (some 726)))), (some (.inl x4)), d5, d6] [] σ k n o
  refine g_goto 3927 (show op 0 2020 = some (.goto 1907, 3) by decide +kernel) rfl ?_
  exact h
theorem b0_2076 {x4 : Int} {d5 : Option AV} {d6 : Option AV} {k : Nat} {n : Nat} {σ : Sg} {o : Rs} (h : C0_3927 x4 d5 d6 k n σ o) : C0_2076 x4 d5 d6 k n σ o := by
  show Gd 0 2076 [(some (.inr (.inr (some SCR)))), (some (.inr (.inr (some 0)))), (some (.inr (.inr (some 682)))), (some (.inr (.inr (some 726)))), (some (.inl x4)), d5, d6] [] σ k n o
  refine g_goto 3927 (show op 0 2076 = some (.goto 1851, 3) by decide +kernel) rfl ?_
  exact h
theorem b0_2156 {x4 : Int} {d5 : Option AV} {d6 : Option AV} {k : Nat} {n : Nat} {σ : Sg} {o : Rs} (h : C0_3927 x4 d5 d6 k n σ o) : C0_2156 x4 d5 d6 k n σ o := by
  show Gd 0 2156 [(some (.inr (.inr (some SCR)))), (some (.inr (.inr (some 0)))), (some (.inr (.inr (some 682)))), (some (.inr (.inr (some 726)))), (some (.inl x4)), d5, d6] [] σ k n o
  refine g_goto 3927 (show op 0 2156 = some (.goto 1771, 3) by decide +kernel) rfl ?_
  exact h
theorem b0_2212 {x4 : Int} {d5 : Option AV} {d6 : Option AV} {k : Nat} {n : Nat} {σ : Sg} {o : Rs} (h : C0_3927 x4 d5 d6 k n σ o) : C0_2212 x4 d5 d6 k n σ o := by
  show Gd 0 2212 [(some (.inr (.inr (some SCR)))), (some (.inr (.inr (some 0)))), (some (.inr (.inr (some 682)))), (some (.inr (.inr (some 726)))), (some (.inl x4)), d5, d6] [] σ k n o
  refine g_goto 3927 (show op 0 2212 = some (.goto 1715, 3) by decide +kernel) rfl ?_
  exact h
theorem b0_2292 {x4 : Int} {d5 : Option AV} {d6 : Option AV} {k : Nat} {n : Nat} {σ : Sg} {o : Rs} (h : C0_3927 x4 d5 d6 k n σ o) : C0_2292 x4 d5 d6 k n σ o := by
  show Gd 0 2292 [(some (.inr (.inr (some SCR)))), (some (.inr (.inr (some 0)))), (some (.inr (.inr (some 682)))), (some (.inr (.inr (some 726)))), (some (.inl x4)), d5, d6] [] σ k n o
  refine g_goto 3927 (show op 0 2292 = some (.goto 1635, 3) by decide +kernel) rfl ?_
  exact h
theorem b0_2348 {x4 : Int} {d5 : Option AV} {d6 : Option AV} {k : Nat} {n : Nat} {σ : Sg} {o : Rs} (h : C0_3927 x4 d5 d6 k n σ o) : C0_2348 x4 d5 d6 k n σ o := by
  show Gd 0 2348 [(some (.inr (.inr (some SCR)))), (some (.inr (.inr (some 0)))), (some (.inr (.inr (some 682)))), (some (.inr (.inr (some 726)))), (some (.inl x4)), d5, d6] [] σ k n o
  refine g_goto 3927 (show op 0 2348 = some (.goto 1579, 3) by decide +kernel) rfl ?_
  exact h
theorem b0_2404 {x4 : Int} {d5 : Option AV} {d6 : Option AV} {k : Nat} {n : Nat} {σ : Sg} {o : Rs} (h : C0_3927 x4 d5 d6 k n σ o) : C0_2404 x4 d5 d6 k n σ o := by
  show Gd 0 2404 [(some (.inr (.inr (some SCR)))), (some (.inr (.inr (some 0)))), (some (.inr (.inr (some 682)))), (some (.inr (.inr (some 726)))), (some (.inl x4)), d5, d6] [] σ k n o
  refine g_goto 3927 (show op 0 2404 = some (.goto 1523, 3) by decide +kernel) rfl ?_
  exact h
theorem b0_2448 {x4 : Int} {d5 : Option AV} {d6 : Option AV} {k : Nat} {n : Nat} {σ : Sg} {o : Rs} (h : C0_3927 x4 d5 d6 k n σ o) : C0_2448 x4 d5 d6 k n σ o := by
  show Gd 0 2448 [(some (.inr (.inr (some SCR)))), (some (.inr (.inr (some 0)))), (some (.inr (.inr (some 682)))), (some (.inr (.inr (some 726)))), (some (.inl x4)), d5, d6] [] σ k n o
  refine g_goto 3927 (show op 0 2448 = some (.goto 1479, 3) by decide +kernel) rfl ?_
  exact h
theorem b0_2504 {x4 : Int} {d5 : Option AV} {d6 : Option AV} {k : Nat} {n : Nat} {σ : Sg} {o : Rs} (h : C0_3927 x4 d5 d6 k n σ o) : C0_2504 x4 d5 d6 k n σ o := by
  show Gd 0 2504 [(some (.inr (.inr (some SCR)))), (some (.inr (.inr (some 0)))), (some (.inr (.inr (some 682)))), (some (.inr (.inr (some 726)))), (some (.inl x4)), d5, d6] [] σ k n o
  refine g_goto 3927 (show op 0 2504 = some (.goto 1423, 3) by decide +kernel) rfl ?_
  exact h
theorem b0_2560 {x4 : Int} {d5 : Option AV} {d6 : Option AV} {k : Nat} {n : Nat} {σ : Sg} {o : Rs} (h : C0_3927 x4 d5 d6 k n σ o) : C0_2560 x4 d5 d6 k n σ o := by
  show Gd 0 2560 [(some (.inr (.inr (some SCR)))), (some (.inr (.inr (some 0)))), (some (.inr (.inr (some 682)))), (some (.inr (.inr (some 726)))), (some (.inl x4)), d5, d6] [] σ k n o
  refine g_goto 3927 (show op 0 2560 = some (.goto 1367, 3) by decide +kernel) rfl ?_
  exact h
theorem b0_2616 {x4 : Int} {d5 : Option AV} {d6 : Option AV} {k : Nat} {n : Nat} {σ : Sg} {o : Rs} (h : C0_3927 x4 d5 d6 k n σ o) : C0_2616 x4 d5 d6 k n σ o := by
  show Gd 0 2616 [(some (.inr (.inr (some SCR)))), (some (.inr (.inr (some 0)))), (some (.inr (.inr (some 682)))), (some (.inr (.inr (some 726)))), (some (.inl x4)), d5, d6] [] σ k n o
  refine g_goto 3927 (show op 0 2616 = some (.goto 1311, 3) by decide +kernel) rfl ?_
  exact h
theorem b0_2696 {x4 : Int} {d5 : Option AV} {d6 : Option AV} {k : Nat} {n : Nat} {σ : Sg} {o : Rs} (h : C0_3927 x4 d5 d6 k n σ o) : C0_2696 x4 d5 d6 k n σ o := by
  show Gd 0 2696 [(some (.inr (.inr (some SCR)))), (some (.inr (.inr (some 0)))), (some (.inr (.inr (some 682)))), (some (.inr (.inr (some 726)))), (some (.inl x4)), d5, d6] [] σ k n o
  refine g_goto 3927 (show op 0 2696 = some (.goto 1231, 3) by decide +kernel) rfl ?_
  exact h
theorem b0_2764 {x4 : Int} {d5 : Option AV} {d6 : Option AV} {k : Nat} {n : Nat} {σ : Sg} {o : Rs} (h : C0_3927 x4 d5 d6 k n σ o) : C0_2764 x4 d5 d6 k n σ o := by
  show Gd 0 2764 [(some (.inr (.inr (some SCR)))), (some (.inr (.inr (some 0)))), (some (.inr (.inr (some 682)))), (some (.inr (.inr (some 726)))), (some (.inl x4)), d5, d6] [] σ k n o
  refine g_goto 3927 (show op 0 2764 = some (.goto 1163, 3) by decide +kernel) rfl ?_
  exact h
theorem b0_2833 {x4 : Int} {d5 : Option AV} {d6 : Option AV} {k : Nat} {n : Nat} {σ : Sg} {o : Rs} (h : C0_3927 x4 d5 d6 k n σ o) : C0_2833 x4 d5 d6 k n σ o := by
  show Gd 0 2833 [(some (.inr (.inr (some SCR)))), (some (.inr (.inr (some 0)))), (some (.inr (.inr (some 682)))), (some (.inr (.inr (some 726)))), (some (.inl x4)), d5, d6] [] σ k n o
  refine g_goto 3927 (show op 0 2833 = some (.goto 1094, 3) by decide +kernel) rfl ?_
  exact h
theorem b0_2889 {x4 : Int} {d5 : Option AV} {d6 : Option AV} {k : Nat} {n : Nat} {σ : Sg} {o : Rs} (h : C0_3927 x4 d5 d6 k n σ o) : C0_2889 x4 d5 d6 k n σ o := by
  show Gd 0 2889 [(some (.inr (.inr (some SCR)))), (some (.inr (.inr (some 0)))), (some (.inr (.inr (some 682)))), (some (.inr (.inr (some 726)))), (some (.inl x4)), d5, d6] [] σ k n o
  refine g_goto 3927 (show op 0 2889 = some (.goto 1038, 3) by decide +kernel) rfl ?_
  exact h
theorem b0_2945 {x4 : Int} {d5 : Option AV} {d6 : Option AV} {k : Nat} {n : Nat} {σ : Sg} {o : Rs} (h : C0_3927 x4 d5 d6 k n σ o) : C0_2945 x4 d5 d6 k n σ o := by
  show Gd 0 2945 [(some (.inr (.inr (some SCR)))), (some (.inr (.inr (some 0)))), (some (.inr (.inr (some 682)))), (some (.inr (.inr (some 726)))), (some (.inl x4)), d5, d6] [] σ k n o
  refine g_goto 3927 (show op 0 2945 = some (.goto 982, 3) by decide +kernel) rfl ?_
  exact h
theorem b0_2989 {x4 : Int} {d5 : Option AV} {d6 : Option AV} {k : Nat} {n : Nat} {σ : Sg} {o : Rs} (h : C0_3927 x4 d5 d6 k n σ o) : C0_2989 x4 d5 d6 k n σ o := by
  show Gd 0 2989 [(some (.inr (.inr (some SCR)))), (some (.inr (.inr (some 0)))), (some (.inr (.inr (some 682)))), (some (.inr (.inr (some 726)))), (some (.inl x4)), d5, d6] [] σ k n o
  refine g_goto 3927 (show op 0 2989 = some (.goto 938, 3) by decide +kernel) rfl ?_
  exact h
theorem b0_3045 {x4 : Int} {d5 : Option AV} {d6 : Option AV} {k : Nat} {n : Nat} {σ : Sg} {o : Rs} (h : C0_3927 x4 d5 d6 k n σ o) : C0_3045 x4 d5 d6 k n σ o := by
  show Gd 0 3045 [(some (.inr (.inr (some SCR)))), (some (.inr (.inr (some 0)))), (some (.inr (.inr (some 682)))), (some (.inr (.inr (some 726)))), (some (.inl x4)), d5, d6] [] σ k n o
  refine g_goto 3927 (show op 0 3045 = some (.goto 882, 3) by decide +kernel) rfl ?_
  exact h
theorem b0_3101 {x4 : Int} {d5 : Option AV} {d6 : Option AV} {k : Nat} {n : Nat} {σ : Sg} {o : Rs} (h : C0_3927 x4 d5 d6 k n σ o) : C0_3101 x4 d5 d6 k n σ o := by
  show Gd 0 3101 [(some (.inr (.inr (some SCR)))), (some (.inr (.inr (some 0)))), (some (.inr (.inr (some 682)))), (some (.inr (.inr (some 726)))), (some (.inl x4)), d5, d6] [] σ k n o
  refine g_goto 3927 (show op 0 3101 = some (.goto 826, 3) by decide +kernel) rfl ?_
  exact h
theorem b0_3182 {x4 : Int} {d5 : Option AV} {d6 : Option AV} {y0 : Int} {y1 : Int} {k : Nat} {n : Nat} {σ : Sg} {o : Rs} (h : (if (if y1 < y0 then 1 else if y0 = y1 then 0 else -1) = 0 then C0_3188 x4 d5 d6 k n σ o else o = (.inl (some (.inl 0)), σ))) : C0_3182 x4 d5 d6 y0 y1 k n σ o := by
  show Gd 0 3182 [(some (.inr (.inr (some SCR)))), (some (.inr (.inr (some 0)))), (some (.inr (.inr (some 682)))), (some (.inr (.inr (some 726)))), (some (.inl x4)), d5, d6] [(.inr (.inl y1)), (.inr (.inl y0))] σ k n o
  refine g_lcmp 3183 (show op 0 3182 = some (.lcmp, 1) by decide +kernel) rfl ?_
  by_cases hc1 : (if y1 < y0 then 1 else if y0 = y1 then 0 else -1) = 0
  · rw [if_pos hc1] at h
    refine g_ifT 3188 (show op 0 3183 = some (.ifCond .eq 5, 3) by decide +kernel) rfl (decide_eq_true hc1) ?_
    exact h
  · rw [if_neg hc1] at h
    refine g_ifF 3186 3188 (show op 0 3183 = some (.ifCond .eq 5, 3) by decide +kernel) rfl rfl (decide_eq_false hc1) ?_
    refine g_iconst 3187 (show op 0 3186 = some (.iconst 0, 1) by decide +kernel) rfl rfl ?_
    exact (g_zret (show op 0 3187 = some (.ireturn, 1) by decide +kernel) (by decide +kernel) (by decide) h)
theorem b0_3188 {x4 : Int} {d5 : Option AV} {d6 : Option AV} {k : Nat} {n : Nat} {σ : Sg} {o : Rs} (h : C0_3927 x4 d5 d6 k n σ o) : C0_3188 x4 d5 d6 k n σ o := by
  show Gd 0 3188 [(some (.inr (.inr (some SCR)))), (some (.inr (.inr (some 0)))), (some (.inr (.inr (some 682)))), (some (.inr (.inr (some 726)))), (some (.inl x4)), d5, d6] [] σ k n o
  refine g_goto 3927 (show op 0 3188 = some (.goto 739, 3) by decide +kernel) rfl ?_
  exact h
theorem b0_3256 {x4 : Int} {d5 : Option AV} {d6 : Option AV} {k : Nat} {n : Nat} {σ : Sg} {o : Rs} (h : C0_3927 x4 d5 d6 k n σ o) : C0_3256 x4 d5 d6 k n σ o := by
  show Gd 0 3256 [(some (.inr (.inr (some SCR)))), (some (.inr (.inr (some 0)))), (some (.inr (.inr (some 682)))), (some (.inr (.inr (some 726)))), (some (.inl x4)), d5, d6] [] σ k n o
  refine g_goto 3927 (show op 0 3256 = some (.goto 671, 3) by decide +kernel) rfl ?_
  exact h
theorem b0_3324 {x4 : Int} {d5 : Option AV} {d6 : Option AV} {k : Nat} {n : Nat} {σ : Sg} {o : Rs} (h : C0_3927 x4 d5 d6 k n σ o) : C0_3324 x4 d5 d6 k n σ o := by
  show Gd 0 3324 [(some (.inr (.inr (some SCR)))), (some (.inr (.inr (some 0)))), (some (.inr (.inr (some 682)))), (some (.inr (.inr (some 726)))), (some (.inl x4)), d5, d6] [] σ k n o
  refine g_goto 3927 (show op 0 3324 = some (.goto 603, 3) by decide +kernel) rfl ?_
  exact h
theorem b0_3392 {x4 : Int} {d5 : Option AV} {d6 : Option AV} {k : Nat} {n : Nat} {σ : Sg} {o : Rs} (h : C0_3927 x4 d5 d6 k n σ o) : C0_3392 x4 d5 d6 k n σ o := by
  show Gd 0 3392 [(some (.inr (.inr (some SCR)))), (some (.inr (.inr (some 0)))), (some (.inr (.inr (some 682)))), (some (.inr (.inr (some 726)))), (some (.inl x4)), d5, d6] [] σ k n o
  refine g_goto 3927 (show op 0 3392 = some (.goto 535, 3) by decide +kernel) rfl ?_
  exact h
theorem b0_3460 {x4 : Int} {d5 : Option AV} {d6 : Option AV} {k : Nat} {n : Nat} {σ : Sg} {o : Rs} (h : C0_3927 x4 d5 d6 k n σ o) : C0_3460 x4 d5 d6 k n σ o := by
  show Gd 0 3460 [(some (.inr (.inr (some SCR)))), (some (.inr (.inr (some 0)))), (some (.inr (.inr (some 682)))), (some (.inr (.inr (some 726)))), (some (.inl x4)), d5, d6] [] σ k n o
  refine g_goto 3927 (show op 0 3460 = some (.goto 467, 3) by decide +kernel) rfl ?_
  exact h
theorem b0_3516 {x4 : Int} {d5 : Option AV} {d6 : Option AV} {k : Nat} {n : Nat} {σ : Sg} {o : Rs} (h : C0_3927 x4 d5 d6 k n σ o) : C0_3516 x4 d5 d6 k n σ o := by
  show Gd 0 3516 [(some (.inr (.inr (some SCR)))), (some (.inr (.inr (some 0)))), (some (.inr (.inr (some 682)))), (some (.inr (.inr (some 726)))), (some (.inl x4)), d5, d6] [] σ k n o
  refine g_goto 3927 (show op 0 3516 = some (.goto 411, 3) by decide +kernel) rfl ?_
  exact h
theorem b0_3584 {x4 : Int} {d5 : Option AV} {d6 : Option AV} {k : Nat} {n : Nat} {σ : Sg} {o : Rs} (h : C0_3927 x4 d5 d6 k n σ o) : C0_3584 x4 d5 d6 k n σ o := by
  show Gd 0 3584 [(some (.inr (.inr (some SCR)))), (some (.inr (.inr (some 0)))), (some (.inr (.inr (some 682)))), (some (.inr (.inr (some 726)))), (some (.inl x4)), d5, d6] [] σ k n o
  refine g_goto 3927 (show op 0 3584 = some (.goto 343, 3) by decide +kernel) rfl ?_
  exact h
theorem b0_3652 {x4 : Int} {d5 : Option AV} {d6 : Option AV} {k : Nat} {n : Nat} {σ : Sg} {o : Rs} (h : C0_3927 x4 d5 d6 k n σ o) : C0_3652 x4 d5 d6 k n σ o := by
  show Gd 0 3652 [(some (.inr (.inr (some SCR)))), (some (.inr (.inr (some 0)))), (some (.inr (.inr (some 682)))), (some (.inr (.inr (some 726)))), (some (.inl x4)), d5, d6] [] σ k n o
  refine g_goto 3927 (show op 0 3652 = some (.goto 275, 3) by decide +kernel) rfl ?_
  exact h
theorem b0_3720 {x4 : Int} {d5 : Option AV} {d6 : Option AV} {k : Nat} {n : Nat} {σ : Sg} {o : Rs} (h : C0_3927 x4 d5 d6 k n σ o) : C0_3720 x4 d5 d6 k n σ o := by
  show Gd 0 3720 [(some (.inr (.inr (some SCR)))), (some (.inr (.inr (some 0)))), (some (.inr (.inr (some 682)))), (some (.inr (.inr (some 726)))), (some (.inl x4)), d5, d6] [] σ k n o
  refine g_goto 3927 (show op 0 3720 = some (.goto 207, 3) by decide +kernel) rfl ?_
  exact h
theorem b0_3776 {x4 : Int} {d5 : Option AV} {d6 : Option AV} {k : Nat} {n : Nat} {σ : Sg} {o : Rs} (h : C0_3927 x4 d5 d6 k n σ o) : C0_3776 x4 d5 d6 k n σ o := by
  show Gd 0 3776 [(some (.inr (.inr (some SCR)))), (some (.inr (.inr (some 0)))), (some (.inr (.inr (some 682)))), (some (.inr (.inr (some 726)))), (some (.inl x4)), d5, d6] [] σ k n o
  refine g_goto 3927 (show op 0 3776 = some (.goto 151, 3) by decide +kernel) rfl ?_
  exact h
theorem b0_3844 {x4 : Int} {d5 : Option AV} {d6 : Option AV} {k : Nat} {n : Nat} {σ : Sg} {o : Rs} (h : C0_3927 x4 d5 d6 k n σ o) : C0_3844 x4 d5 d6 k n σ o := by
  show Gd 0 3844 [(some (.inr (.inr (some SCR)))), (some (.inr (.inr (some 0)))), (some (.inr (.inr (some 682)))), (some (.inr (.inr (some 726)))), (some (.inl x4)), d5, d6] [] σ k n o
  refine g_goto 3927 (show op 0 3844 = some (.goto 83, 3) by decide +kernel) rfl ?_
  exact h
theorem b0_3924 {x4 : Int} {d5 : Option AV} {d6 : Option AV} {k : Nat} {n : Nat} {σ : Sg} {o : Rs} (h : C0_3927 x4 d5 d6 k n σ o) : C0_3924 x4 d5 d6 k n σ o := by
  show Gd 0 3924 [(some (.inr (.inr (some SCR)))), (some (.inr (.inr (some 0)))), (some (.inr (.inr (some 682)))), (some (.inr (.inr (some 726)))), (some (.inl x4)), d5, d6] [] σ k n o
  refine g_goto 3927 (show op 0 3924 = some (.goto 3, 3) by decide +kernel) rfl ?_
  exact h
theorem b0_1263 {x4 : Int} {x5 : Int} {d6 : Option AV} {y1 : Int} {y2 : Int} {y3 : Int} {k : Nat} {n : Nat} {σ : Sg} {o : Rs} (h : (k ≤ 601024 ∧ n ≤ 7293034) ∧ (∃ (v2 : Int) (s1 : Sg), Dd 303 [(.inr (.inr (some 682))), (.inl y1), (.inl y2), (.inl y3)] σ (.inl (some (.inl v2)), s1) ∧ (k ≤ 601024 ∧ n ≤ 7293034) ∧ (∃ (v6 : Int) (s5 : Sg), Dd 244 [(.inr (.inr (some 682)))] s1 (.inl (some (.inl v6)), s5) ∧ (if v6 = x5 then (if x5 = 0 then (if (if v2 < (s5 726 (0 : Int).toNat) then 1 else if (s5 726 (0 : Int).toNat) = v2 then 0 else -1) = 0 then C0_1296 x4 (some (.inl x5)) (some (.inl v2)) k n s5 o else o = (.inl (some (.inl 0)), s5)) else C0_1296 x4 (some (.inl x5)) (some (.inl v2)) k n s5 o) else o = (.inl (some (.inl 0)), s5))))) : C0_1263 x4 x5 d6 y1 y2 y3 k n σ o := by
  show Gd 0 1263 [(some (.inr (.inr (some SCR)))), (some (.inr (.inr (some 0)))), (some (.inr (.inr (some 682)))), (some (.inr (.inr (some 726)))), (some (.inl x4)), (some (.inl x5)), d6] [(.inl y3), (.inl y2), (.inl y1), (.inr (.inr (some 682)))] σ k n o
  obtain ⟨g4, h⟩ := h
  obtain ⟨v2, s1, hD3, h⟩ := h
  refine g_call 1266 [(.inl v2)] (show op 0 1263 = some (.invokevirtual 239, 3) by decide +kernel) (call_viL (c := 0) (s := 0) (nj := 4) (j := 303) (k9 := 21) (t := []) (as := [(.inr (.inr (some 682))), (.inl y1), (.inl y2), (.inl y3)]) (by decide +kernel) rfl (by decide +kernel) g4 rfl rfl rfl rfl rfl rfl (by decide +kernel) (by decide +kernel)) hD3 rfl ?_
  refine g_istore 1268 [(some (.inr (.inr (some SCR)))), (some (.inr (.inr (some 0)))), (some (.inr (.inr (some 682)))), (some (.inr (.inr (some 726)))), (some (.inl x4)), (some (.inl x5)), (some (.inl v2))] (show op 0 1266 = some (.istore 6, 2) by decide +kernel) rfl rfl rfl ?_
  refine g_aload_n 1269 (show op 0 1268 = some (.aload_n 2, 1) by decide +kernel) rfl rfl ?_
  obtain ⟨g8, h⟩ := h
  obtain ⟨v6, s5, hD7, h⟩ := h
  refine g_call 1272 [(.inl v6)] (show op 0 1269 = some (.invokevirtual 194, 3) by decide +kernel) (call_viL (c := 0) (s := 0) (nj := 1) (j := 244) (k9 := 21) (t := []) (as := [(.inr (.inr (some 682)))]) (by decide +kernel) rfl (by decide +kernel) g8 rfl rfl rfl rfl rfl rfl (by decide +kernel) (by decide +kernel)) hD7 rfl ?_
  refine g_iload 1274 (show op 0 1272 = some (.iload 5, 2) by decide +kernel) rfl rfl ?_
  by_cases hc9 : v6 = x5
  · rw [if_pos hc9] at h
    refine g_icmpT 1279 (show op 0 1274 = some (.if_icmp .eq 5, 3) by decide +kernel) rfl (decide_eq_true hc9) ?_
    refine g_iload 1281 (show op 0 1279 = some (.iload 5, 2) by decide +kernel) rfl rfl ?_
    by_cases hc10 : x5 = 0
    · rw [if_pos hc10] at h
      refine g_ifF 1284 1296 (show op 0 1281 = some (.ifCond .ne 15, 3) by decide +kernel) rfl rfl (decide_eq_false (fun h9 => h9 hc10)) ?_
      refine g_aload_n 1285 (show op 0 1284 = some (.aload_n 3, 1) by decide +kernel) rfl rfl ?_
      refine g_iconst 1286 (show op 0 1285 = some (.iconst 0, 1) by decide +kernel) rfl rfl ?_
      refine g_laload 1287 1 (show op 0 1286 = some (.laload, 1) by decide +kernel) rfl (by decide +kernel) (by decide) ?_
      refine g_iload 1289 (show op 0 1287 = some (.iload 6, 2) by decide +kernel) rfl rfl ?_
      refine g_i2l 1290 (show op 0 1289 = some (.i2l, 1) by decide +kernel) rfl ?_
      refine g_lcmp 1291 (show op 0 1290 = some (.lcmp, 1) by decide +kernel) rfl ?_
      by_cases hc11 : (if v2 < (s5 726 (0 : Int).toNat) then 1 else if (s5 726 (0 : Int).toNat) = v2 then 0 else -1) = 0
      · rw [if_pos hc11] at h
        refine g_ifT 1296 (show op 0 1291 = some (.ifCond .eq 5, 3) by decide +kernel) rfl (decide_eq_true hc11) ?_
        exact h
      · rw [if_neg hc11] at h
        refine g_ifF 1294 1296 (show op 0 1291 = some (.ifCond .eq 5, 3) by decide +kernel) rfl rfl (decide_eq_false hc11) ?_
        refine g_iconst 1295 (show op 0 1294 = some (.iconst 0, 1) by decide +kernel) rfl rfl ?_
        exact (g_zret (show op 0 1295 = some (.ireturn, 1) by decide +kernel) (by decide +kernel) (by decide) h)
    · rw [if_neg hc10] at h
      refine g_ifT 1296 (show op 0 1281 = some (.ifCond .ne 15, 3) by decide +kernel) rfl (decide_eq_true hc10) ?_
      exact h
  · rw [if_neg hc9] at h
    refine g_icmpF 1277 1279 (show op 0 1274 = some (.if_icmp .eq 5, 3) by decide +kernel) rfl rfl (decide_eq_false hc9) ?_
    refine g_iconst 1278 (show op 0 1277 = some (.iconst 0, 1) by decide +kernel) rfl rfl ?_
    exact (g_zret (show op 0 1278 = some (.ireturn, 1) by decide +kernel) (by decide +kernel) (by decide) h)
theorem b0_1383 {x4 : Int} {x5 : Int} {d6 : Option AV} {y1 : Int} {y2 : Int} {y3 : Int} {y4 : Int} {y5 : Int} {k : Nat} {n : Nat} {σ : Sg} {o : Rs} (h : (k ≤ 601024 ∧ n ≤ 7293034) ∧ (∃ (v2 : Int) (s1 : Sg), Dd 305 [(.inr (.inr (some 682))), (.inl y1), (.inl y2), (.inl y3), (.inl y4), (.inl y5)] σ (.inl (some (.inl v2)), s1) ∧ (k ≤ 601024 ∧ n ≤ 7293034) ∧ (∃ (v6 : Int) (s5 : Sg), Dd 244 [(.inr (.inr (some 682)))] s1 (.inl (some (.inl v6)), s5) ∧ (if v6 = x5 then (if x5 = 0 then (if (if v2 < (s5 726 (0 : Int).toNat) then 1 else if (s5 726 (0 : Int).toNat) = v2 then 0 else -1) = 0 then C0_1416 x4 (some (.inl x5)) (some (.inl v2)) k n s5 o else o = (.inl (some (.inl 0)), s5)) else C0_1416 x4 (some (.inl x5)) (some (.inl v2)) k n s5 o) else o = (.inl (some (.inl 0)), s5))))) : C0_1383 x4 x5 d6 y1 y2 y3 y4 y5 k n σ o := by
  show Gd 0 1383 [(some (.inr (.inr (some SCR)))), (some (.inr (.inr (some 0)))), (some (.inr (.inr (some 682)))), (some (.inr (.inr (some 726)))), (some (.inl x4)), (some (.inl x5)), d6] [(.inl y5), (.inl y4), (.inl y3), (.inl y2), (.inl y1), (.inr (.inr (some 682)))] σ k n o
  obtain ⟨g4, h⟩ := h
  obtain ⟨v2, s1, hD3, h⟩ := h
  refine g_call 1386 [(.inl v2)] (show op 0 1383 = some (.invokevirtual 243, 3) by decide +kernel) (call_viL (c := 0) (s := 0) (nj := 6) (j := 305) (k9 := 21) (t := []) (as := [(.inr (.inr (some 682))), (.inl y1), (.inl y2), (.inl y3), (.inl y4), (.inl y5)]) (by decide +kernel) rfl (by decide +kernel) g4 rfl rfl rfl rfl rfl rfl (by decide +kernel) (by decide +kernel)) hD3 rfl ?_
  refine g_istore 1388 [(some (.inr (.inr (some SCR)))), (some (.inr (.inr (some 0)))), (some (.inr (.inr (some 682)))), (some (.inr (.inr (some 726)))), (some (.inl x4)), (some (.inl x5)), (some (.inl v2))] (show op 0 1386 = some (.istore 6, 2) by decide +kernel) rfl rfl rfl ?_
  refine g_aload_n 1389 (show op 0 1388 = some (.aload_n 2, 1) by decide +kernel) rfl rfl ?_
  obtain ⟨g8, h⟩ := h
  obtain ⟨v6, s5, hD7, h⟩ := h
  refine g_call 1392 [(.inl v6)] (show op 0 1389 = some (.invokevirtual 194, 3) by decide +kernel) (call_viL (c := 0) (s := 0) (nj := 1) (j := 244) (k9 := 21) (t := []) (as := [(.inr (.inr (some 682)))]) (by decide +kernel) rfl (by decide +kernel) g8 rfl rfl rfl rfl rfl rfl (by decide +kernel) (by decide +kernel)) hD7 rfl ?_
  refine g_iload 1394 (show op 0 1392 = some (.iload 5, 2) by decide +kernel) rfl rfl ?_
  by_cases hc9 : v6 = x5
  · rw [if_pos hc9] at h
    refine g_icmpT 1399 (show op 0 1394 = some (.if_icmp .eq 5, 3) by decide +kernel) rfl (decide_eq_true hc9) ?_
    refine g_iload 1401 (show op 0 1399 = some (.iload 5, 2) by decide +kernel) rfl rfl ?_
    by_cases hc10 : x5 = 0
    · rw [if_pos hc10] at h
      refine g_ifF 1404 1416 (show op 0 1401 = some (.ifCond .ne 15, 3) by decide +kernel) rfl rfl (decide_eq_false (fun h9 => h9 hc10)) ?_
      refine g_aload_n 1405 (show op 0 1404 = some (.aload_n 3, 1) by decide +kernel) rfl rfl ?_
      refine g_iconst 1406 (show op 0 1405 = some (.iconst 0, 1) by decide +kernel) rfl rfl ?_
      refine g_laload 1407 1 (show op 0 1406 = some (.laload, 1) by decide +kernel) rfl (by decide +kernel) (by decide) ?_
      refine g_iload 1409 (show op 0 1407 = some (.iload 6, 2) by decide +kernel) rfl rfl ?_
      refine g_i2l 1410 (show op 0 1409 = some (.i2l, 1) by decide +kernel) rfl ?_
      refine g_lcmp 1411 (show op 0 1410 = some (.lcmp, 1) by decide +kernel) rfl ?_
      by_cases hc11 : (if v2 < (s5 726 (0 : Int).toNat) then 1 else if (s5 726 (0 : Int).toNat) = v2 then 0 else -1) = 0
      · rw [if_pos hc11] at h
        refine g_ifT 1416 (show op 0 1411 = some (.ifCond .eq 5, 3) by decide +kernel) rfl (decide_eq_true hc11) ?_
        exact h
      · rw [if_neg hc11] at h
        refine g_ifF 1414 1416 (show op 0 1411 = some (.ifCond .eq 5, 3) by decide +kernel) rfl rfl (decide_eq_false hc11) ?_
        refine g_iconst 1415 (show op 0 1414 = some (.iconst 0, 1) by decide +kernel) rfl rfl ?_
        exact (g_zret (show op 0 1415 = some (.ireturn, 1) by decide +kernel) (by decide +kernel) (by decide) h)
    · rw [if_neg hc10] at h
      refine g_ifT 1416 (show op 0 1401 = some (.ifCond .ne 15, 3) by decide +kernel) rfl (decide_eq_true hc10) ?_
      exact h
  · rw [if_neg hc9] at h
    refine g_icmpF 1397 1399 (show op 0 1394 = some (.if_icmp .eq 5, 3) by decide +kernel) rfl rfl (decide_eq_false hc9) ?_
    refine g_iconst 1398 (show op 0 1397 = some (.iconst 0, 1) by decide +kernel) rfl rfl ?_
    exact (g_zret (show op 0 1398 = some (.ireturn, 1) by decide +kernel) (by decide +kernel) (by decide) h)
theorem b0_1486 {x4 : Int} {x5 : Int} {d6 : Option AV} {y1 : Int} {y2 : Int} {k : Nat} {n : Nat} {σ : Sg} {o : Rs} (h : (-2147483648 ≤ (x4 + 3) ∧ (x4 + 3) ≤ 2147483647) ∧ (0 ≤ (x4 + 3) ∧ (x4 + 3) < σ (SCR + 1) 0) ∧ (k ≤ 601024 ∧ n ≤ 7293034) ∧ (∃ (v4 : Int) (s3 : Sg), Dd 307 [(.inr (.inr (some 682))), (.inl y1), (.inl y2), (.inl (σ SCR ((x4 + 3)).toNat))] σ (.inl (some (.inl v4)), s3) ∧ (k ≤ 601024 ∧ n ≤ 7293034) ∧ (∃ (v8 : Int) (s7 : Sg), Dd 244 [(.inr (.inr (some 682)))] s3 (.inl (some (.inl v8)), s7) ∧ (if v8 = x5 then (if x5 = 0 then (if (if v4 < (s7 726 (0 : Int).toNat) then 1 else if (s7 726 (0 : Int).toNat) = v4 then 0 else -1) = 0 then C0_1525 x4 (some (.inl x5)) (some (.inl v4)) k n s7 o else o = (.inl (some (.inl 0)), s7)) else C0_1525 x4 (some (.inl x5)) (some (.inl v4)) k n s7 o) else o = (.inl (some (.inl 0)), s7))))) : C0_1486 x4 x5 d6 y1 y2 k n σ o := by
  show Gd 0 1486 [(some (.inr (.inr (some SCR)))), (some (.inr (.inr (some 0)))), (some (.inr (.inr (some 682)))), (some (.inr (.inr (some 726)))), (some (.inl x4)), (some (.inl x5)), d6] [(.inl y2), (.inl y1), (.inr (.inr (some 682)))] σ k n o
  refine g_aload_n 1487 (show op 0 1486 = some (.aload_n 0, 1) by decide +kernel) rfl rfl ?_
  refine g_iload 1489 (show op 0 1487 = some (.iload 4, 2) by decide +kernel) rfl rfl ?_
  refine g_iconst 1490 (show op 0 1489 = some (.iconst 3, 1) by decide +kernel) rfl rfl ?_
  obtain ⟨g1, h⟩ := h
  refine g_iadd 1491 (show op 0 1490 = some (.iadd, 1) by decide +kernel) rfl g1 ?_
  obtain ⟨g2, h⟩ := h
  refine g_scr 1492 (show op 0 1491 = some (.iaload, 1) by decide +kernel) rfl g2 ?_
  obtain ⟨g6, h⟩ := h
  obtain ⟨v4, s3, hD5, h⟩ := h
  refine g_call 1495 [(.inl v4)] (show op 0 1492 = some (.invokevirtual 251, 3) by decide +kernel) (call_viL (c := 0) (s := 0) (nj := 4) (j := 307) (k9 := 21) (t := []) (as := [(.inr (.inr (some 682))), (.inl y1), (.inl y2), (.inl (σ SCR ((x4 + 3)).toNat))]) (by decide +kernel) rfl (by decide +kernel) g6 rfl rfl rfl rfl rfl rfl (by decide +kernel) (by decide +kernel)) hD5 rfl ?_
  refine g_istore 1497 [(some (.inr (.inr (some SCR)))), (some (.inr (.inr (some 0)))), (some (.inr (.inr (some 682)))), (some (.inr (.inr (some 726)))), (some (.inl x4)), (some (.inl x5)), (some (.inl v4))] (show op 0 1495 = some (.istore 6, 2) by decide +kernel) rfl rfl rfl ?_
  refine g_aload_n 1498 (show op 0 1497 = some (.aload_n 2, 1) by decide +kernel) rfl rfl ?_
  obtain ⟨g10, h⟩ := h
  obtain ⟨v8, s7, hD9, h⟩ := h
  refine g_call 1501 [(.inl v8)] (show op 0 1498 = some (.invokevirtual 194, 3) by decide +kernel) (call_viL (c := 0) (s := 0) (nj := 1) (j := 244) (k9 := 21) (t := []) (as := [(.inr (.inr (some 682)))]) (by decide +kernel) rfl (by decide +kernel) g10 rfl rfl rfl rfl rfl rfl (by decide +kernel) (by decide +kernel)) hD9 rfl ?_
  refine g_iload 1503 (show op 0 1501 = some (.iload 5, 2) by decide +kernel) rfl rfl ?_
  by_cases hc11 : v8 = x5
  · rw [if_pos hc11] at h
    refine g_icmpT 1508 (show op 0 1503 = some (.if_icmp .eq 5, 3) by decide +kernel) rfl (decide_eq_true hc11) ?_
    refine g_iload 1510 (show op 0 1508 = some (.iload 5, 2) by decide +kernel) rfl rfl ?_
    by_cases hc12 : x5 = 0
    · rw [if_pos hc12] at h
      refine g_ifF 1513 1525 (show op 0 1510 = some (.ifCond .ne 15, 3) by decide +kernel) rfl rfl (decide_eq_false (fun h9 => h9 hc12)) ?_
      refine g_aload_n 1514 (show op 0 1513 = some (.aload_n 3, 1) by decide +kernel) rfl rfl ?_
      refine g_iconst 1515 (show op 0 1514 = some (.iconst 0, 1) by decide +kernel) rfl rfl ?_
      refine g_laload 1516 1 (show op 0 1515 = some (.laload, 1) by decide +kernel) rfl (by decide +kernel) (by decide) ?_
      refine g_iload 1518 (show op 0 1516 = some (.iload 6, 2) by decide +kernel) rfl rfl ?_
      refine g_i2l 1519 (show op 0 1518 = some (.i2l, 1) by decide +kernel) rfl ?_
      refine g_lcmp 1520 (show op 0 1519 = some (.lcmp, 1) by decide +kernel) rfl ?_
      by_cases hc13 : (if v4 < (s7 726 (0 : Int).toNat) then 1 else if (s7 726 (0 : Int).toNat) = v4 then 0 else -1) = 0
      · rw [if_pos hc13] at h
        refine g_ifT 1525 (show op 0 1520 = some (.ifCond .eq 5, 3) by decide +kernel) rfl (decide_eq_true hc13) ?_
        exact h
      · rw [if_neg hc13] at h
        refine g_ifF 1523 1525 (show op 0 1520 = some (.ifCond .eq 5, 3) by decide +kernel) rfl rfl (decide_eq_false hc13) ?_
        refine g_iconst 1524 (show op 0 1523 = some (.iconst 0, 1) by decide +kernel) rfl rfl ?_
        exact (g_zret (show op 0 1524 = some (.ireturn, 1) by decide +kernel) (by decide +kernel) (by decide) h)
    · rw [if_neg hc12] at h
      refine g_ifT 1525 (show op 0 1510 = some (.ifCond .ne 15, 3) by decide +kernel) rfl (decide_eq_true hc12) ?_
      exact h
  · rw [if_neg hc11] at h
    refine g_icmpF 1506 1508 (show op 0 1503 = some (.if_icmp .eq 5, 3) by decide +kernel) rfl rfl (decide_eq_false hc11) ?_
    refine g_iconst 1507 (show op 0 1506 = some (.iconst 0, 1) by decide +kernel) rfl rfl ?_
    exact (g_zret (show op 0 1507 = some (.ireturn, 1) by decide +kernel) (by decide +kernel) (by decide) h)
theorem b0_1296 {x4 : Int} {d5 : Option AV} {d6 : Option AV} {k : Nat} {n : Nat} {σ : Sg} {o : Rs} (h : C0_3927 x4 d5 d6 k n σ o) : C0_1296 x4 d5 d6 k n σ o := by
  show Gd 0 1296 [(some (.inr (.inr (some SCR)))), (some (.inr (.inr (some 0)))), (some (.inr (.inr (some 682)))), (some (.inr (.inr (some 726)))), (some (.inl x4)), d5, d6] [] σ k n o
  refine g_goto 3927 (show op 0 1296 = some (.goto 2631, 3) by decide +kernel) rfl ?_
  exact h
theorem b0_1416 {x4 : Int} {d5 : Option AV} {d6 : Option AV} {k : Nat} {n : Nat} {σ : Sg} {o : Rs} (h : C0_3927 x4 d5 d6 k n σ o) : C0_1416 x4 d5 d6 k n σ o := by
  show Gd 0 1416 [(some (.inr (.inr (some SCR)))), (some (.inr (.inr (some 0)))), (some (.inr (.inr (some 682)))), (some (.inr (.inr (some 726)))), (some (.inl x4)), d5, d6] [] σ k n o
  refine g_goto 3927 (show op 0 1416 = some (.goto 2511, 3) by decide +kernel) rfl ?_
  exact h
theorem b0_1525 {x4 : Int} {d5 : Option AV} {d6 : Option AV} {k : Nat} {n : Nat} {σ : Sg} {o : Rs} (h : C0_3927 x4 d5 d6 k n σ o) : C0_1525 x4 d5 d6 k n σ o := by
  show Gd 0 1525 [(some (.inr (.inr (some SCR)))), (some (.inr (.inr (some 0)))), (some (.inr (.inr (some 682)))), (some (.inr (.inr (some 726)))), (some (.inl x4)), d5, d6] [] σ k n o
  refine g_goto 3927 (show op 0 1525 = some (.goto 2402, 3) by decide +kernel) rfl ?_
  exact h
end

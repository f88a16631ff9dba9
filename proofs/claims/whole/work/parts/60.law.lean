/-! the law, segment by segment -/
set_option maxRecDepth 20000 in
theorem B232_0 {sc : Nat × (Nat → Int)} {μ : xM} {K : List xK} {x1 : Int} : AT sc 232 0 [vS, vI x1] [] (K, μ) = if x1 < (sc.1 : Int) then xg sc.1 x1 (AT sc 232 2 [vN, vN] [vI (sc.2 x1.toNat)] (K, μ)) else AT sc 232 1 [vN, vN] [] (K, μ) := (AT_eq sc 232 0 _ _ _).trans rfl
set_option maxRecDepth 20000 in
theorem B232_1 {sc : Nat × (Nat → Int)} {μ : xM} {K : List xK} : AT sc 232 1 [vN, vN] [] (K, μ) = AT sc 232 2 [vN, vN] [vI 0] (K, μ) := (AT_eq sc 232 1 _ _ _).trans rfl
set_option maxRecDepth 20000 in
theorem B232_2 {sc : Nat × (Nat → Int)} {μ : xM} {K : List xK} {s0 : Int} : AT sc 232 2 [vN, vN] [vI s0] (K, μ) = some (some (vI s0), (K, μ)) := (AT_eq sc 232 2 _ _ _).trans rfl
set_option maxRecDepth 20000 in
theorem B233_5 {sc : Nat × (Nat → Int)} {μ : xM} {x3 : Int} : AT sc 233 5 [vS, vR 0, vR 139, vI x3] [] (SK, μ) = if (wr ((sc.1 : Int) - 7)) < x3 then AT sc 233 89 [vN, vN, vN, vN] [] (SK, μ) else xg sc.1 x3 (if (31 : Int) = 31 then if ((sc.2 x3.toNat) % 32) = 0 then AT sc 233 6 [vS, vR 0, vR 139, vI x3] [] (SK, μ) else if ((sc.2 x3.toNat) % 32) = 1 then AT sc 233 9 [vS, vR 0, vR 139, vI x3] [] (SK, μ) else if ((sc.2 x3.toNat) % 32) = 2 then AT sc 233 12 [vS, vR 0, vR 139, vI x3] [] (SK, μ) else if ((sc.2 x3.toNat) % 32) = 3 then AT sc 233 15 [vS, vR 0, vR 139, vI x3] [] (SK, μ) else if ((sc.2 x3.toNat) % 32) = 4 then AT sc 233 18 [vS, vR 0, vR 139, vI x3] [] (SK, μ) else if ((sc.2 x3.toNat) % 32) = 5 then AT sc 233 21 [vS, vR 0, vR 139, vI x3] [] (SK, μ) else if ((sc.2 x3.toNat) % 32) = 6 then AT sc 233 24 [vS, vR 0, vR 139, vI x3] [] (SK, μ) else if ((sc.2 x3.toNat) % 32) = 7 then AT sc 233 27 [vS, vR 0, vR 139, vI x3] [] (SK, μ) else if ((sc.2 x3.toNat) % 32) = 8 then AT sc 233 30 [vS, vR 0, vR 139, vI x3] [] (SK, μ) else if ((sc.2 x3.toNat) % 32) = 9 then AT sc 233 33 [vS, vR 0, vR 139, vI x3] [] (SK, μ) else if ((sc.2 x3.toNat) % 32) = 10 then AT sc 233 36 [vS, vR 0, vR 139, vI x3] [] (SK, μ) else if ((sc.2 x3.toNat) % 32) = 11 then AT sc 233 39 [vS, vR 0, vR 139, vI x3] [] (SK, μ) else if ((sc.2 x3.toNat) % 32) = 12 then AT sc 233 42 [vS, vR 0, vR 139, vI x3] [] (SK, μ) else if ((sc.2 x3.toNat) % 32) = 13 then AT sc 233 45 [vS, vR 0, vR 139, vI x3] [] (SK, μ) else if ((sc.2 x3.toNat) % 32) = 14 then AT sc 233 52 [vS, vR 0, vR 139, vI x3] [] (SK, μ) else if ((sc.2 x3.toNat) % 32) = 15 then AT sc 233 55 [vS, vR 0, vR 139, vI x3] [] (SK, μ) else if ((sc.2 x3.toNat) % 32) = 16 then AT sc 233 58 [vS, vR 0, vR 139, vI x3] [] (SK, μ) else if ((sc.2 x3.toNat) % 32) = 17 then AT sc 233 61 [vS, vR 0, vR 139, vI x3] [] (SK, μ) else if ((sc.2 x3.toNat) % 32) = 18 then AT sc 233 64 [vS, vR 0, vR 139, vI x3] [] (SK, μ) else if ((sc.2 x3.toNat) % 32) = 19 then AT sc 233 67 [vS, vR 0, vR 139, vI x3] [] (SK, μ) else if ((sc.2 x3.toNat) % 32) = 20 then AT sc 233 70 [vS, vR 0, vR 139, vI x3] [] (SK, μ) else if ((sc.2 x3.toNat) % 32) = 21 then AT sc 233 73 [vS, vR 0, vR 139, vI x3] [] (SK, μ) else if ((sc.2 x3.toNat) % 32) = 22 then AT sc 233 76 [vS, vR 0, vR 139, vI x3] [] (SK, μ) else if ((sc.2 x3.toNat) % 32) = 23 then AT sc 233 79 [vS, vR 0, vR 139, vI x3] [] (SK, μ) else if ((sc.2 x3.toNat) % 32) = 24 then AT sc 233 82 [vS, vR 0, vR 139, vI x3] [] (SK, μ) else if ((sc.2 x3.toNat) % 32) = 25 then AT sc 233 85 [vS, vR 0, vR 139, vI x3] [] (SK, μ) else AT sc 233 88 [vS, vR 0, vR 139, vI x3] [] (SK, μ) else none) := (AT_eq sc 233 5 _ _ _).trans rfl
set_option maxRecDepth 20000 in
theorem B233_6 {sc : Nat × (Nat → Int)} {μ : xM} {x3 : Int} : AT sc 233 6 [vS, vR 0, vR 139, vI x3] [] (SK, μ) = xg sc.1 (wr (x3 + 1)) (xg sc.1 (wr (x3 + 2)) (xcI (EV sc 133 [vR 0, vI (sc.2 (wr (x3 + 1)).toNat), vI (sc.2 (wr (x3 + 2)).toNat)] (SK, μ)) fun v σ => AT sc 233 7 [vS, vR 0, vR 139, vI x3] [vI v] σ)) := (AT_eq sc 233 6 _ _ _).trans rfl
set_option maxRecDepth 20000 in
theorem B233_7 {sc : Nat × (Nat → Int)} {μ : xM} {x3 s0 : Int} : AT sc 233 7 [vS, vR 0, vR 139, vI x3] [vI s0] (SK, μ) = xg sc.1 (wr (x3 + 1)) (xg sc.1 (wr (x3 + 2)) (xcI (EV sc 170 [vR 139, vI (sc.2 (wr (x3 + 1)).toNat), vI (sc.2 (wr (x3 + 2)).toNat)] (SK, μ)) fun v σ => AT sc 233 8 [vS, vR 0, vR 139, vI x3] [vI v, vI s0] σ)) := (AT_eq sc 233 7 _ _ _).trans rfl
set_option maxRecDepth 20000 in
theorem B233_8 {sc : Nat × (Nat → Int)} {μ : xM} {x3 s0 s1 : Int} : AT sc 233 8 [vS, vR 0, vR 139, vI x3] [vI s0, vI s1] (SK, μ) = if s1 = s0 then AT sc 233 88 [vS, vR 0, vR 139, vI x3] [] (SK, μ) else if (0 : Int) = 0 ∨ (0 : Int) = 1 then some (some (vI 0), (SK, μ)) else none := (AT_eq sc 233 8 _ _ _).trans rfl
set_option maxRecDepth 20000 in
theorem B233_9 {sc : Nat × (Nat → Int)} {μ : xM} {x3 : Int} : AT sc 233 9 [vS, vR 0, vR 139, vI x3] [] (SK, μ) = xg sc.1 (wr (x3 + 1)) (xg sc.1 (wr (x3 + 2)) (xg sc.1 (wr (x3 + 3)) (xg sc.1 (wr (x3 + 4)) (xcI (EV sc 134 [vR 0, vI (sc.2 (wr (x3 + 1)).toNat), vI (sc.2 (wr (x3 + 2)).toNat), vI (sc.2 (wr (x3 + 3)).toNat), vI (sc.2 (wr (x3 + 4)).toNat)] (SK, μ)) fun v σ => AT sc 233 10 [vS, vR 0, vR 139, vI x3] [vI v] σ)))) := (AT_eq sc 233 9 _ _ _).trans rfl
set_option maxRecDepth 20000 in
theorem B233_10 {sc : Nat × (Nat → Int)} {μ : xM} {x3 s0 : Int} : AT sc 233 10 [vS, vR 0, vR 139, vI x3] [vI s0] (SK, μ) = xg sc.1 (wr (x3 + 1)) (xg sc.1 (wr (x3 + 2)) (xg sc.1 (wr (x3 + 3)) (xg sc.1 (wr (x3 + 4)) (xcI (EV sc 172 [vR 139, vI (sc.2 (wr (x3 + 1)).toNat), vI (sc.2 (wr (x3 + 2)).toNat), vI (sc.2 (wr (x3 + 3)).toNat), vI (sc.2 (wr (x3 + 4)).toNat)] (SK, μ)) fun v σ => AT sc 233 11 [vS, vR 0, vR 139, vI x3] [vI v, vI s0] σ)))) := (AT_eq sc 233 10 _ _ _).trans rfl
set_option maxRecDepth 20000 in
theorem B233_11 {sc : Nat × (Nat → Int)} {μ : xM} {x3 s0 s1 : Int} : AT sc 233 11 [vS, vR 0, vR 139, vI x3] [vI s0, vI s1] (SK, μ) = if s1 = s0 then AT sc 233 88 [vS, vR 0, vR 139, vI x3] [] (SK, μ) else if (0 : Int) = 0 ∨ (0 : Int) = 1 then some (some (vI 0), (SK, μ)) else none := (AT_eq sc 233 11 _ _ _).trans rfl
set_option maxRecDepth 20000 in
theorem B233_12 {sc : Nat × (Nat → Int)} {μ : xM} {x3 : Int} : AT sc 233 12 [vS, vR 0, vR 139, vI x3] [] (SK, μ) = xg sc.1 (wr (x3 + 1)) (xg sc.1 (wr (x3 + 2)) (xcI (EV sc 135 [vR 0, vI (sc.2 (wr (x3 + 1)).toNat), vI (sc.2 (wr (x3 + 2)).toNat)] (SK, μ)) fun v σ => AT sc 233 13 [vS, vR 0, vR 139, vI x3] [vI v] σ)) := (AT_eq sc 233 12 _ _ _).trans rfl
set_option maxRecDepth 20000 in
theorem B233_13 {sc : Nat × (Nat → Int)} {μ : xM} {x3 s0 : Int} : AT sc 233 13 [vS, vR 0, vR 139, vI x3] [vI s0] (SK, μ) = xg sc.1 (wr (x3 + 1)) (xg sc.1 (wr (x3 + 2)) (xcI (EV sc 174 [vR 139, vI (sc.2 (wr (x3 + 1)).toNat), vI (sc.2 (wr (x3 + 2)).toNat)] (SK, μ)) fun v σ => AT sc 233 14 [vS, vR 0, vR 139, vI x3] [vI v, vI s0] σ)) := (AT_eq sc 233 13 _ _ _).trans rfl
set_option maxRecDepth 20000 in
theorem B233_14 {sc : Nat × (Nat → Int)} {μ : xM} {x3 s0 s1 : Int} : AT sc 233 14 [vS, vR 0, vR 139, vI x3] [vI s0, vI s1] (SK, μ) = if s1 = s0 then AT sc 233 88 [vS, vR 0, vR 139, vI x3] [] (SK, μ) else if (0 : Int) = 0 ∨ (0 : Int) = 1 then some (some (vI 0), (SK, μ)) else none := (AT_eq sc 233 14 _ _ _).trans rfl
set_option maxRecDepth 20000 in
theorem B233_15 {sc : Nat × (Nat → Int)} {μ : xM} {x3 : Int} : AT sc 233 15 [vS, vR 0, vR 139, vI x3] [] (SK, μ) = xg sc.1 (wr (x3 + 1)) (xg sc.1 (wr (x3 + 2)) (xcI (EV sc 136 [vR 0, vI (sc.2 (wr (x3 + 1)).toNat), vI (sc.2 (wr (x3 + 2)).toNat)] (SK, μ)) fun v σ => AT sc 233 16 [vS, vR 0, vR 139, vI x3] [vI v] σ)) := (AT_eq sc 233 15 _ _ _).trans rfl
set_option maxRecDepth 20000 in
theorem B233_16 {sc : Nat × (Nat → Int)} {μ : xM} {x3 s0 : Int} : AT sc 233 16 [vS, vR 0, vR 139, vI x3] [vI s0] (SK, μ) = xg sc.1 (wr (x3 + 1)) (xg sc.1 (wr (x3 + 2)) (xcI (EV sc 175 [vR 139, vI (sc.2 (wr (x3 + 1)).toNat), vI (sc.2 (wr (x3 + 2)).toNat)] (SK, μ)) fun v σ => AT sc 233 17 [vS, vR 0, vR 139, vI x3] [vI v, vI s0] σ)) := (AT_eq sc 233 16 _ _ _).trans rfl
set_option maxRecDepth 20000 in
theorem B233_17 {sc : Nat × (Nat → Int)} {μ : xM} {x3 s0 s1 : Int} : AT sc 233 17 [vS, vR 0, vR 139, vI x3] [vI s0, vI s1] (SK, μ) = if s1 = s0 then AT sc 233 88 [vS, vR 0, vR 139, vI x3] [] (SK, μ) else if (0 : Int) = 0 ∨ (0 : Int) = 1 then some (some (vI 0), (SK, μ)) else none := (AT_eq sc 233 17 _ _ _).trans rfl
set_option maxRecDepth 20000 in
theorem B233_18 {sc : Nat × (Nat → Int)} {μ : xM} {x3 : Int} : AT sc 233 18 [vS, vR 0, vR 139, vI x3] [] (SK, μ) = xg sc.1 (wr (x3 + 1)) (xg sc.1 (wr (x3 + 2)) (xcI (EV sc 137 [vR 0, vI (sc.2 (wr (x3 + 1)).toNat), vI (sc.2 (wr (x3 + 2)).toNat)] (SK, μ)) fun v σ => AT sc 233 19 [vS, vR 0, vR 139, vI x3] [vI v] σ)) := (AT_eq sc 233 18 _ _ _).trans rfl
set_option maxRecDepth 20000 in
theorem B233_19 {sc : Nat × (Nat → Int)} {μ : xM} {x3 s0 : Int} : AT sc 233 19 [vS, vR 0, vR 139, vI x3] [vI s0] (SK, μ) = xg sc.1 (wr (x3 + 1)) (xg sc.1 (wr (x3 + 2)) (xcI (EV sc 179 [vR 139, vI (sc.2 (wr (x3 + 1)).toNat), vI (sc.2 (wr (x3 + 2)).toNat)] (SK, μ)) fun v σ => AT sc 233 20 [vS, vR 0, vR 139, vI x3] [vI v, vI s0] σ)) := (AT_eq sc 233 19 _ _ _).trans rfl
set_option maxRecDepth 20000 in
theorem B233_20 {sc : Nat × (Nat → Int)} {μ : xM} {x3 s0 s1 : Int} : AT sc 233 20 [vS, vR 0, vR 139, vI x3] [vI s0, vI s1] (SK, μ) = if s1 = s0 then AT sc 233 88 [vS, vR 0, vR 139, vI x3] [] (SK, μ) else if (0 : Int) = 0 ∨ (0 : Int) = 1 then some (some (vI 0), (SK, μ)) else none := (AT_eq sc 233 20 _ _ _).trans rfl
set_option maxRecDepth 20000 in
theorem B233_21 {sc : Nat × (Nat → Int)} {μ : xM} {x3 : Int} : AT sc 233 21 [vS, vR 0, vR 139, vI x3] [] (SK, μ) = xg sc.1 (wr (x3 + 1)) (xcI (EV sc 138 [vR 0, vI (sc.2 (wr (x3 + 1)).toNat)] (SK, μ)) fun v σ => AT sc 233 22 [vS, vR 0, vR 139, vI x3] [vI v] σ) := (AT_eq sc 233 21 _ _ _).trans rfl
set_option maxRecDepth 20000 in
theorem B233_22 {sc : Nat × (Nat → Int)} {μ : xM} {x3 s0 : Int} : AT sc 233 22 [vS, vR 0, vR 139, vI x3] [vI s0] (SK, μ) = xg sc.1 (wr (x3 + 1)) (xcI (EV sc 183 [vR 139, vI (sc.2 (wr (x3 + 1)).toNat)] (SK, μ)) fun v σ => AT sc 233 23 [vS, vR 0, vR 139, vI x3] [vI v, vI s0] σ) := (AT_eq sc 233 22 _ _ _).trans rfl
set_option maxRecDepth 20000 in
theorem B233_23 {sc : Nat × (Nat → Int)} {μ : xM} {x3 s0 s1 : Int} : AT sc 233 23 [vS, vR 0, vR 139, vI x3] [vI s0, vI s1] (SK, μ) = if s1 = s0 then AT sc 233 88 [vS, vR 0, vR 139, vI x3] [] (SK, μ) else if (0 : Int) = 0 ∨ (0 : Int) = 1 then some (some (vI 0), (SK, μ)) else none := (AT_eq sc 233 23 _ _ _).trans rfl
set_option maxRecDepth 20000 in
theorem B233_24 {sc : Nat × (Nat → Int)} {μ : xM} {x3 : Int} : AT sc 233 24 [vS, vR 0, vR 139, vI x3] [] (SK, μ) = xg sc.1 (wr (x3 + 1)) (xg sc.1 (wr (x3 + 2)) (xg sc.1 (wr (x3 + 3)) (xg sc.1 (wr (x3 + 4)) (xg sc.1 (wr (x3 + 5)) (xg sc.1 (wr (x3 + 6)) (xcI (EV sc 139 [vR 0, vI (sc.2 (wr (x3 + 1)).toNat), vI (sc.2 (wr (x3 + 2)).toNat), vI (sc.2 (wr (x3 + 3)).toNat), vI (sc.2 (wr (x3 + 4)).toNat), vI (sc.2 (wr (x3 + 5)).toNat), vI (sc.2 (wr (x3 + 6)).toNat)] (SK, μ)) fun v σ => AT sc 233 25 [vS, vR 0, vR 139, vI x3] [vI v] σ)))))) := (AT_eq sc 233 24 _ _ _).trans rfl
set_option maxRecDepth 20000 in
theorem B233_25 {sc : Nat × (Nat → Int)} {μ : xM} {x3 s0 : Int} : AT sc 233 25 [vS, vR 0, vR 139, vI x3] [vI s0] (SK, μ) = xg sc.1 (wr (x3 + 1)) (xg sc.1 (wr (x3 + 2)) (xg sc.1 (wr (x3 + 3)) (xg sc.1 (wr (x3 + 4)) (xg sc.1 (wr (x3 + 5)) (xg sc.1 (wr (x3 + 6)) (xcI (EV sc 186 [vR 139, vI (sc.2 (wr (x3 + 1)).toNat), vI (sc.2 (wr (x3 + 2)).toNat), vI (sc.2 (wr (x3 + 3)).toNat), vI (sc.2 (wr (x3 + 4)).toNat), vI (sc.2 (wr (x3 + 5)).toNat), vI (sc.2 (wr (x3 + 6)).toNat)] (SK, μ)) fun v σ => AT sc 233 26 [vS, vR 0, vR 139, vI x3] [vI v, vI s0] σ)))))) := (AT_eq sc 233 25 _ _ _).trans rfl
set_option maxRecDepth 20000 in
theorem B233_26 {sc : Nat × (Nat → Int)} {μ : xM} {x3 s0 s1 : Int} : AT sc 233 26 [vS, vR 0, vR 139, vI x3] [vI s0, vI s1] (SK, μ) = if s1 = s0 then AT sc 233 88 [vS, vR 0, vR 139, vI x3] [] (SK, μ) else if (0 : Int) = 0 ∨ (0 : Int) = 1 then some (some (vI 0), (SK, μ)) else none := (AT_eq sc 233 26 _ _ _).trans rfl
set_option maxRecDepth 20000 in
theorem B233_27 {sc : Nat × (Nat → Int)} {μ : xM} {x3 : Int} : AT sc 233 27 [vS, vR 0, vR 139, vI x3] [] (SK, μ) = xg sc.1 (wr (x3 + 1)) (xcI (EV sc 140 [vR 0, vI (sc.2 (wr (x3 + 1)).toNat)] (SK, μ)) fun v σ => AT sc 233 28 [vS, vR 0, vR 139, vI x3] [vI v] σ) := (AT_eq sc 233 27 _ _ _).trans rfl
set_option maxRecDepth 20000 in
theorem B233_28 {sc : Nat × (Nat → Int)} {μ : xM} {x3 s0 : Int} : AT sc 233 28 [vS, vR 0, vR 139, vI x3] [vI s0] (SK, μ) = xg sc.1 (wr (x3 + 1)) (xcI (EV sc 192 [vR 139, vI (sc.2 (wr (x3 + 1)).toNat)] (SK, μ)) fun v σ => AT sc 233 29 [vS, vR 0, vR 139, vI x3] [vI v, vI s0] σ) := (AT_eq sc 233 28 _ _ _).trans rfl
set_option maxRecDepth 20000 in
theorem B233_29 {sc : Nat × (Nat → Int)} {μ : xM} {x3 s0 s1 : Int} : AT sc 233 29 [vS, vR 0, vR 139, vI x3] [vI s0, vI s1] (SK, μ) = if s1 = s0 then AT sc 233 88 [vS, vR 0, vR 139, vI x3] [] (SK, μ) else if (0 : Int) = 0 ∨ (0 : Int) = 1 then some (some (vI 0), (SK, μ)) else none := (AT_eq sc 233 29 _ _ _).trans rfl
set_option maxRecDepth 20000 in
theorem B233_30 {sc : Nat × (Nat → Int)} {μ : xM} {x3 : Int} : AT sc 233 30 [vS, vR 0, vR 139, vI x3] [] (SK, μ) = xg sc.1 (wr (x3 + 1)) (xg sc.1 (wr (x3 + 2)) (xcI (EV sc 141 [vR 0, vI (sc.2 (wr (x3 + 1)).toNat), vI (sc.2 (wr (x3 + 2)).toNat)] (SK, μ)) fun v σ => AT sc 233 31 [vS, vR 0, vR 139, vI x3] [vI v] σ)) := (AT_eq sc 233 30 _ _ _).trans rfl
set_option maxRecDepth 20000 in
theorem B233_31 {sc : Nat × (Nat → Int)} {μ : xM} {x3 s0 : Int} : AT sc 233 31 [vS, vR 0, vR 139, vI x3] [vI s0] (SK, μ) = xg sc.1 (wr (x3 + 1)) (xg sc.1 (wr (x3 + 2)) (xcI (EV sc 193 [vR 139, vI (sc.2 (wr (x3 + 1)).toNat), vI (sc.2 (wr (x3 + 2)).toNat)] (SK, μ)) fun v σ => AT sc 233 32 [vS, vR 0, vR 139, vI x3] [vI v, vI s0] σ)) := (AT_eq sc 233 31 _ _ _).trans rfl
set_option maxRecDepth 20000 in
theorem B233_32 {sc : Nat × (Nat → Int)} {μ : xM} {x3 s0 s1 : Int} : AT sc 233 32 [vS, vR 0, vR 139, vI x3] [vI s0, vI s1] (SK, μ) = if s1 = s0 then AT sc 233 88 [vS, vR 0, vR 139, vI x3] [] (SK, μ) else if (0 : Int) = 0 ∨ (0 : Int) = 1 then some (some (vI 0), (SK, μ)) else none := (AT_eq sc 233 32 _ _ _).trans rfl
set_option maxRecDepth 20000 in
theorem B233_33 {sc : Nat × (Nat → Int)} {μ : xM} {x3 : Int} : AT sc 233 33 [vS, vR 0, vR 139, vI x3] [] (SK, μ) = xg sc.1 (wr (x3 + 1)) (xcI (EV sc 142 [vR 0, vI (sc.2 (wr (x3 + 1)).toNat)] (SK, μ)) fun v σ => AT sc 233 34 [vS, vR 0, vR 139, vI x3] [vI v] σ) := (AT_eq sc 233 33 _ _ _).trans rfl
set_option maxRecDepth 20000 in
theorem B233_34 {sc : Nat × (Nat → Int)} {μ : xM} {x3 s0 : Int} : AT sc 233 34 [vS, vR 0, vR 139, vI x3] [vI s0] (SK, μ) = xg sc.1 (wr (x3 + 1)) (xcI (EV sc 194 [vR 139, vI (sc.2 (wr (x3 + 1)).toNat)] (SK, μ)) fun v σ => AT sc 233 35 [vS, vR 0, vR 139, vI x3] [vI v, vI s0] σ) := (AT_eq sc 233 34 _ _ _).trans rfl
set_option maxRecDepth 20000 in
theorem B233_35 {sc : Nat × (Nat → Int)} {μ : xM} {x3 s0 s1 : Int} : AT sc 233 35 [vS, vR 0, vR 139, vI x3] [vI s0, vI s1] (SK, μ) = if s1 = s0 then AT sc 233 88 [vS, vR 0, vR 139, vI x3] [] (SK, μ) else if (0 : Int) = 0 ∨ (0 : Int) = 1 then some (some (vI 0), (SK, μ)) else none := (AT_eq sc 233 35 _ _ _).trans rfl
set_option maxRecDepth 20000 in
theorem B233_36 {sc : Nat × (Nat → Int)} {μ : xM} {x3 : Int} : AT sc 233 36 [vS, vR 0, vR 139, vI x3] [] (SK, μ) = xg sc.1 (wr (x3 + 1)) (xg sc.1 (wr (x3 + 2)) (xcI (EV sc 143 [vR 0, vI (sc.2 (wr (x3 + 1)).toNat), vI (sc.2 (wr (x3 + 2)).toNat)] (SK, μ)) fun v σ => AT sc 233 37 [vS, vR 0, vR 139, vI x3] [vI v] σ)) := (AT_eq sc 233 36 _ _ _).trans rfl
set_option maxRecDepth 20000 in
theorem B233_37 {sc : Nat × (Nat → Int)} {μ : xM} {x3 s0 : Int} : AT sc 233 37 [vS, vR 0, vR 139, vI x3] [vI s0] (SK, μ) = xg sc.1 (wr (x3 + 1)) (xg sc.1 (wr (x3 + 2)) (xcI (EV sc 197 [vR 139, vI (sc.2 (wr (x3 + 1)).toNat), vI (sc.2 (wr (x3 + 2)).toNat)] (SK, μ)) fun v σ => AT sc 233 38 [vS, vR 0, vR 139, vI x3] [vI v, vI s0] σ)) := (AT_eq sc 233 37 _ _ _).trans rfl
set_option maxRecDepth 20000 in
theorem B233_38 {sc : Nat × (Nat → Int)} {μ : xM} {x3 s0 s1 : Int} : AT sc 233 38 [vS, vR 0, vR 139, vI x3] [vI s0, vI s1] (SK, μ) = if s1 = s0 then AT sc 233 88 [vS, vR 0, vR 139, vI x3] [] (SK, μ) else if (0 : Int) = 0 ∨ (0 : Int) = 1 then some (some (vI 0), (SK, μ)) else none := (AT_eq sc 233 38 _ _ _).trans rfl
set_option maxRecDepth 20000 in
theorem B233_39 {sc : Nat × (Nat → Int)} {μ : xM} {x3 : Int} : AT sc 233 39 [vS, vR 0, vR 139, vI x3] [] (SK, μ) = xg sc.1 (wr (x3 + 1)) (xcI (EV sc 144 [vR 0, vI (sc.2 (wr (x3 + 1)).toNat)] (SK, μ)) fun v σ => AT sc 233 40 [vS, vR 0, vR 139, vI x3] [vI v] σ) := (AT_eq sc 233 39 _ _ _).trans rfl
set_option maxRecDepth 20000 in
theorem B233_40 {sc : Nat × (Nat → Int)} {μ : xM} {x3 s0 : Int} : AT sc 233 40 [vS, vR 0, vR 139, vI x3] [vI s0] (SK, μ) = xg sc.1 (wr (x3 + 1)) (xcI (EV sc 199 [vR 139, vI (sc.2 (wr (x3 + 1)).toNat)] (SK, μ)) fun v σ => AT sc 233 41 [vS, vR 0, vR 139, vI x3] [vI v, vI s0] σ) := (AT_eq sc 233 40 _ _ _).trans rfl
set_option maxRecDepth 20000 in
theorem B233_41 {sc : Nat × (Nat → Int)} {μ : xM} {x3 s0 s1 : Int} : AT sc 233 41 [vS, vR 0, vR 139, vI x3] [vI s0, vI s1] (SK, μ) = if s1 = s0 then AT sc 233 88 [vS, vR 0, vR 139, vI x3] [] (SK, μ) else if (0 : Int) = 0 ∨ (0 : Int) = 1 then some (some (vI 0), (SK, μ)) else none := (AT_eq sc 233 41 _ _ _).trans rfl
set_option maxRecDepth 20000 in
theorem B233_42 {sc : Nat × (Nat → Int)} {μ : xM} {x3 : Int} : AT sc 233 42 [vS, vR 0, vR 139, vI x3] [] (SK, μ) = xg sc.1 (wr (x3 + 1)) (xcI (EV sc 145 [vR 0, vI (sc.2 (wr (x3 + 1)).toNat)] (SK, μ)) fun v σ => AT sc 233 43 [vS, vR 0, vR 139, vI x3] [vI v] σ) := (AT_eq sc 233 42 _ _ _).trans rfl
set_option maxRecDepth 20000 in
theorem B233_43 {sc : Nat × (Nat → Int)} {μ : xM} {x3 s0 : Int} : AT sc 233 43 [vS, vR 0, vR 139, vI x3] [vI s0] (SK, μ) = xg sc.1 (wr (x3 + 1)) (xcI (EV sc 201 [vR 139, vI (sc.2 (wr (x3 + 1)).toNat)] (SK, μ)) fun v σ => AT sc 233 44 [vS, vR 0, vR 139, vI x3] [vI v, vI s0] σ) := (AT_eq sc 233 43 _ _ _).trans rfl
set_option maxRecDepth 20000 in
theorem B233_44 {sc : Nat × (Nat → Int)} {μ : xM} {x3 s0 s1 : Int} : AT sc 233 44 [vS, vR 0, vR 139, vI x3] [vI s0, vI s1] (SK, μ) = if s1 = s0 then AT sc 233 88 [vS, vR 0, vR 139, vI x3] [] (SK, μ) else if (0 : Int) = 0 ∨ (0 : Int) = 1 then some (some (vI 0), (SK, μ)) else none := (AT_eq sc 233 44 _ _ _).trans rfl
set_option maxRecDepth 20000 in
theorem B233_45 {sc : Nat × (Nat → Int)} {μ : xM} {x3 : Int} : AT sc 233 45 [vS, vR 0, vR 139, vI x3] [] (SK, μ) = xg sc.1 (wr (x3 + 1)) (xg sc.1 (wr (x3 + 2)) (if (sc.2 (wr (x3 + 2)).toNat) = 0 then AT sc 233 46 [vS, vR 0, vR 139, vI x3] [vI (sc.2 (wr (x3 + 1)).toNat), vR 0] (SK, μ) else AT sc 233 47 [vS, vR 0, vR 139, vI x3] [vI 1, vI (sc.2 (wr (x3 + 1)).toNat), vR 0] (SK, μ))) := (AT_eq sc 233 45 _ _ _).trans rfl
set_option maxRecDepth 20000 in
theorem B233_46 {sc : Nat × (Nat → Int)} {μ : xM} {x3 s0 : Int} : AT sc 233 46 [vS, vR 0, vR 139, vI x3] [vI s0, vR 0] (SK, μ) = AT sc 233 47 [vS, vR 0, vR 139, vI x3] [vI 0, vI s0, vR 0] (SK, μ) := (AT_eq sc 233 46 _ _ _).trans rfl
set_option maxRecDepth 20000 in
theorem B233_47 {sc : Nat × (Nat → Int)} {μ : xM} {x3 s0 s1 : Int} : AT sc 233 47 [vS, vR 0, vR 139, vI x3] [vI s0, vI s1, vR 0] (SK, μ) = xcI (EV sc 146 [vR 0, vI s1, vI s0] (SK, μ)) fun v σ => AT sc 233 48 [vS, vR 0, vR 139, vI x3] [vI v] σ := (AT_eq sc 233 47 _ _ _).trans rfl
set_option maxRecDepth 20000 in
theorem B233_48 {sc : Nat × (Nat → Int)} {μ : xM} {x3 s0 : Int} : AT sc 233 48 [vS, vR 0, vR 139, vI x3] [vI s0] (SK, μ) = xg sc.1 (wr (x3 + 1)) (xg sc.1 (wr (x3 + 2)) (if (sc.2 (wr (x3 + 2)).toNat) = 0 then AT sc 233 49 [vS, vR 0, vR 139, vI x3] [vI (sc.2 (wr (x3 + 1)).toNat), vR 139, vI s0] (SK, μ) else AT sc 233 50 [vS, vR 0, vR 139, vI x3] [vI 1, vI (sc.2 (wr (x3 + 1)).toNat), vR 139, vI s0] (SK, μ))) := (AT_eq sc 233 48 _ _ _).trans rfl
set_option maxRecDepth 20000 in
theorem B233_49 {sc : Nat × (Nat → Int)} {μ : xM} {x3 s0 s2 : Int} : AT sc 233 49 [vS, vR 0, vR 139, vI x3] [vI s0, vR 139, vI s2] (SK, μ) = AT sc 233 50 [vS, vR 0, vR 139, vI x3] [vI 0, vI s0, vR 139, vI s2] (SK, μ) := (AT_eq sc 233 49 _ _ _).trans rfl
set_option maxRecDepth 20000 in
theorem B233_50 {sc : Nat × (Nat → Int)} {μ : xM} {x3 s0 s1 s3 : Int} : AT sc 233 50 [vS, vR 0, vR 139, vI x3] [vI s0, vI s1, vR 139, vI s3] (SK, μ) = xcI (EV sc 202 [vR 139, vI s1, vI s0] (SK, μ)) fun v σ => AT sc 233 51 [vS, vR 0, vR 139, vI x3] [vI v, vI s3] σ := (AT_eq sc 233 50 _ _ _).trans rfl
set_option maxRecDepth 20000 in
theorem B233_51 {sc : Nat × (Nat → Int)} {μ : xM} {x3 s0 s1 : Int} : AT sc 233 51 [vS, vR 0, vR 139, vI x3] [vI s0, vI s1] (SK, μ) = if s1 = s0 then AT sc 233 88 [vS, vR 0, vR 139, vI x3] [] (SK, μ) else if (0 : Int) = 0 ∨ (0 : Int) = 1 then some (some (vI 0), (SK, μ)) else none := (AT_eq sc 233 51 _ _ _).trans rfl
set_option maxRecDepth 20000 in
theorem B233_52 {sc : Nat × (Nat → Int)} {μ : xM} {x3 : Int} : AT sc 233 52 [vS, vR 0, vR 139, vI x3] [] (SK, μ) = xg sc.1 (wr (x3 + 1)) (xcI (EV sc 147 [vR 0, vI (sc.2 (wr (x3 + 1)).toNat)] (SK, μ)) fun v σ => AT sc 233 53 [vS, vR 0, vR 139, vI x3] [vI v] σ) := (AT_eq sc 233 52 _ _ _).trans rfl
set_option maxRecDepth 20000 in
theorem B233_53 {sc : Nat × (Nat → Int)} {μ : xM} {x3 s0 : Int} : AT sc 233 53 [vS, vR 0, vR 139, vI x3] [vI s0] (SK, μ) = xg sc.1 (wr (x3 + 1)) (xcI (EV sc 203 [vR 139, vI (sc.2 (wr (x3 + 1)).toNat)] (SK, μ)) fun v σ => AT sc 233 54 [vS, vR 0, vR 139, vI x3] [vI v, vI s0] σ) := (AT_eq sc 233 53 _ _ _).trans rfl
set_option maxRecDepth 20000 in
theorem B233_54 {sc : Nat × (Nat → Int)} {μ : xM} {x3 s0 s1 : Int} : AT sc 233 54 [vS, vR 0, vR 139, vI x3] [vI s0, vI s1] (SK, μ) = if s1 = s0 then AT sc 233 88 [vS, vR 0, vR 139, vI x3] [] (SK, μ) else if (0 : Int) = 0 ∨ (0 : Int) = 1 then some (some (vI 0), (SK, μ)) else none := (AT_eq sc 233 54 _ _ _).trans rfl
set_option maxRecDepth 20000 in
theorem B233_55 {sc : Nat × (Nat → Int)} {μ : xM} {x3 : Int} : AT sc 233 55 [vS, vR 0, vR 139, vI x3] [] (SK, μ) = xg sc.1 (wr (x3 + 1)) (xcI (EV sc 148 [vR 0, vI (sc.2 (wr (x3 + 1)).toNat)] (SK, μ)) fun v σ => AT sc 233 56 [vS, vR 0, vR 139, vI x3] [vI v] σ) := (AT_eq sc 233 55 _ _ _).trans rfl
set_option maxRecDepth 20000 in
theorem B233_56 {sc : Nat × (Nat → Int)} {μ : xM} {x3 s0 : Int} : AT sc 233 56 [vS, vR 0, vR 139, vI x3] [vI s0] (SK, μ) = xg sc.1 (wr (x3 + 1)) (xcI (EV sc 221 [vR 139, vI (sc.2 (wr (x3 + 1)).toNat)] (SK, μ)) fun v σ => AT sc 233 57 [vS, vR 0, vR 139, vI x3] [vI v, vI s0] σ) := (AT_eq sc 233 56 _ _ _).trans rfl
set_option maxRecDepth 20000 in
theorem B233_57 {sc : Nat × (Nat → Int)} {μ : xM} {x3 s0 s1 : Int} : AT sc 233 57 [vS, vR 0, vR 139, vI x3] [vI s0, vI s1] (SK, μ) = if s1 = s0 then AT sc 233 88 [vS, vR 0, vR 139, vI x3] [] (SK, μ) else if (0 : Int) = 0 ∨ (0 : Int) = 1 then some (some (vI 0), (SK, μ)) else none := (AT_eq sc 233 57 _ _ _).trans rfl
set_option maxRecDepth 20000 in
theorem B233_58 {sc : Nat × (Nat → Int)} {μ : xM} {x3 : Int} : AT sc 233 58 [vS, vR 0, vR 139, vI x3] [] (SK, μ) = xg sc.1 (wr (x3 + 1)) (xg sc.1 (wr (x3 + 2)) (xcI (EV sc 149 [vR 0, vI (sc.2 (wr (x3 + 1)).toNat), vI (sc.2 (wr (x3 + 2)).toNat)] (SK, μ)) fun v σ => AT sc 233 59 [vS, vR 0, vR 139, vI x3] [vI v] σ)) := (AT_eq sc 233 58 _ _ _).trans rfl
set_option maxRecDepth 20000 in
theorem B233_59 {sc : Nat × (Nat → Int)} {μ : xM} {x3 s0 : Int} : AT sc 233 59 [vS, vR 0, vR 139, vI x3] [vI s0] (SK, μ) = xg sc.1 (wr (x3 + 1)) (xg sc.1 (wr (x3 + 2)) (xcI (EV sc 223 [vR 139, vI (sc.2 (wr (x3 + 1)).toNat), vI (sc.2 (wr (x3 + 2)).toNat)] (SK, μ)) fun v σ => AT sc 233 60 [vS, vR 0, vR 139, vI x3] [vI v, vI s0] σ)) := (AT_eq sc 233 59 _ _ _).trans rfl
set_option maxRecDepth 20000 in
theorem B233_60 {sc : Nat × (Nat → Int)} {μ : xM} {x3 s0 s1 : Int} : AT sc 233 60 [vS, vR 0, vR 139, vI x3] [vI s0, vI s1] (SK, μ) = if s1 = s0 then AT sc 233 88 [vS, vR 0, vR 139, vI x3] [] (SK, μ) else if (0 : Int) = 0 ∨ (0 : Int) = 1 then some (some (vI 0), (SK, μ)) else none := (AT_eq sc 233 60 _ _ _).trans rfl
set_option maxRecDepth 20000 in
theorem B233_61 {sc : Nat × (Nat → Int)} {μ : xM} {x3 : Int} : AT sc 233 61 [vS, vR 0, vR 139, vI x3] [] (SK, μ) = xg sc.1 (wr (x3 + 1)) (xcI (EV sc 150 [vR 0, vI (sc.2 (wr (x3 + 1)).toNat)] (SK, μ)) fun v σ => AT sc 233 62 [vS, vR 0, vR 139, vI x3] [vI v] σ) := (AT_eq sc 233 61 _ _ _).trans rfl
set_option maxRecDepth 20000 in
theorem B233_62 {sc : Nat × (Nat → Int)} {μ : xM} {x3 s0 : Int} : AT sc 233 62 [vS, vR 0, vR 139, vI x3] [vI s0] (SK, μ) = xg sc.1 (wr (x3 + 1)) (xcI (EV sc 224 [vR 139, vI (sc.2 (wr (x3 + 1)).toNat)] (SK, μ)) fun v σ => AT sc 233 63 [vS, vR 0, vR 139, vI x3] [vI v, vI s0] σ) := (AT_eq sc 233 62 _ _ _).trans rfl
set_option maxRecDepth 20000 in
theorem B233_63 {sc : Nat × (Nat → Int)} {μ : xM} {x3 s0 s1 : Int} : AT sc 233 63 [vS, vR 0, vR 139, vI x3] [vI s0, vI s1] (SK, μ) = if s1 = s0 then AT sc 233 88 [vS, vR 0, vR 139, vI x3] [] (SK, μ) else if (0 : Int) = 0 ∨ (0 : Int) = 1 then some (some (vI 0), (SK, μ)) else none := (AT_eq sc 233 63 _ _ _).trans rfl
set_option maxRecDepth 20000 in
theorem B233_64 {sc : Nat × (Nat → Int)} {μ : xM} {x3 : Int} : AT sc 233 64 [vS, vR 0, vR 139, vI x3] [] (SK, μ) = xg sc.1 (wr (x3 + 1)) (xcI (EV sc 151 [vR 0, vI (sc.2 (wr (x3 + 1)).toNat)] (SK, μ)) fun v σ => AT sc 233 65 [vS, vR 0, vR 139, vI x3] [vI v] σ) := (AT_eq sc 233 64 _ _ _).trans rfl
set_option maxRecDepth 20000 in
theorem B233_65 {sc : Nat × (Nat → Int)} {μ : xM} {x3 s0 : Int} : AT sc 233 65 [vS, vR 0, vR 139, vI x3] [vI s0] (SK, μ) = xg sc.1 (wr (x3 + 1)) (xcI (EV sc 225 [vR 139, vI (sc.2 (wr (x3 + 1)).toNat)] (SK, μ)) fun v σ => AT sc 233 66 [vS, vR 0, vR 139, vI x3] [vI v, vI s0] σ) := (AT_eq sc 233 65 _ _ _).trans rfl
set_option maxRecDepth 20000 in
theorem B233_66 {sc : Nat × (Nat → Int)} {μ : xM} {x3 s0 s1 : Int} : AT sc 233 66 [vS, vR 0, vR 139, vI x3] [vI s0, vI s1] (SK, μ) = if s1 = s0 then AT sc 233 88 [vS, vR 0, vR 139, vI x3] [] (SK, μ) else if (0 : Int) = 0 ∨ (0 : Int) = 1 then some (some (vI 0), (SK, μ)) else none := (AT_eq sc 233 66 _ _ _).trans rfl
set_option maxRecDepth 20000 in
theorem B233_67 {sc : Nat × (Nat → Int)} {μ : xM} {x3 : Int} : AT sc 233 67 [vS, vR 0, vR 139, vI x3] [] (SK, μ) = xg sc.1 (wr (x3 + 1)) (xg sc.1 (wr (x3 + 2)) (xg sc.1 (wr (x3 + 3)) (xg sc.1 (wr (x3 + 4)) (xcI (EV sc 152 [vR 0, vI (sc.2 (wr (x3 + 1)).toNat), vI (sc.2 (wr (x3 + 2)).toNat), vI (sc.2 (wr (x3 + 3)).toNat), vI (sc.2 (wr (x3 + 4)).toNat)] (SK, μ)) fun v σ => AT sc 233 68 [vS, vR 0, vR 139, vI x3] [vI v] σ)))) := (AT_eq sc 233 67 _ _ _).trans rfl
set_option maxRecDepth 20000 in
theorem B233_68 {sc : Nat × (Nat → Int)} {μ : xM} {x3 s0 : Int} : AT sc 233 68 [vS, vR 0, vR 139, vI x3] [vI s0] (SK, μ) = xg sc.1 (wr (x3 + 1)) (xg sc.1 (wr (x3 + 2)) (xg sc.1 (wr (x3 + 3)) (xg sc.1 (wr (x3 + 4)) (xcI (EV sc 171 [vR 139, vI (sc.2 (wr (x3 + 1)).toNat), vI (sc.2 (wr (x3 + 2)).toNat), vI (sc.2 (wr (x3 + 3)).toNat), vI (sc.2 (wr (x3 + 4)).toNat)] (SK, μ)) fun v σ => AT sc 233 69 [vS, vR 0, vR 139, vI x3] [vI v, vI s0] σ)))) := (AT_eq sc 233 68 _ _ _).trans rfl
set_option maxRecDepth 20000 in
theorem B233_69 {sc : Nat × (Nat → Int)} {μ : xM} {x3 s0 s1 : Int} : AT sc 233 69 [vS, vR 0, vR 139, vI x3] [vI s0, vI s1] (SK, μ) = if s1 = s0 then AT sc 233 88 [vS, vR 0, vR 139, vI x3] [] (SK, μ) else if (0 : Int) = 0 ∨ (0 : Int) = 1 then some (some (vI 0), (SK, μ)) else none := (AT_eq sc 233 69 _ _ _).trans rfl
set_option maxRecDepth 20000 in
theorem B233_70 {sc : Nat × (Nat → Int)} {μ : xM} {x3 : Int} : AT sc 233 70 [vS, vR 0, vR 139, vI x3] [] (SK, μ) = xg sc.1 (wr (x3 + 1)) (xg sc.1 (wr (x3 + 2)) (xcI (EV sc 153 [vR 0, vI (sc.2 (wr (x3 + 1)).toNat), vI (sc.2 (wr (x3 + 2)).toNat)] (SK, μ)) fun v σ => AT sc 233 71 [vS, vR 0, vR 139, vI x3] [vI v] σ)) := (AT_eq sc 233 70 _ _ _).trans rfl
set_option maxRecDepth 20000 in
theorem B233_71 {sc : Nat × (Nat → Int)} {μ : xM} {x3 s0 : Int} : AT sc 233 71 [vS, vR 0, vR 139, vI x3] [vI s0] (SK, μ) = xg sc.1 (wr (x3 + 1)) (xg sc.1 (wr (x3 + 2)) (xcI (EV sc 226 [vR 139, vI (sc.2 (wr (x3 + 1)).toNat), vI (sc.2 (wr (x3 + 2)).toNat)] (SK, μ)) fun v σ => AT sc 233 72 [vS, vR 0, vR 139, vI x3] [vI v, vI s0] σ)) := (AT_eq sc 233 71 _ _ _).trans rfl
set_option maxRecDepth 20000 in
theorem B233_72 {sc : Nat × (Nat → Int)} {μ : xM} {x3 s0 s1 : Int} : AT sc 233 72 [vS, vR 0, vR 139, vI x3] [vI s0, vI s1] (SK, μ) = if s1 = s0 then AT sc 233 88 [vS, vR 0, vR 139, vI x3] [] (SK, μ) else if (0 : Int) = 0 ∨ (0 : Int) = 1 then some (some (vI 0), (SK, μ)) else none := (AT_eq sc 233 72 _ _ _).trans rfl
set_option maxRecDepth 20000 in
theorem B233_73 {sc : Nat × (Nat → Int)} {μ : xM} {x3 : Int} : AT sc 233 73 [vS, vR 0, vR 139, vI x3] [] (SK, μ) = xg sc.1 (wr (x3 + 1)) (xg sc.1 (wr (x3 + 2)) (xg sc.1 (wr (x3 + 3)) (xcI (EV sc 154 [vR 0, vI (sc.2 (wr (x3 + 1)).toNat), vI (sc.2 (wr (x3 + 2)).toNat), vI (sc.2 (wr (x3 + 3)).toNat)] (SK, μ)) fun v σ => AT sc 233 74 [vS, vR 0, vR 139, vI x3] [vI v] σ))) := (AT_eq sc 233 73 _ _ _).trans rfl
set_option maxRecDepth 20000 in
theorem B233_74 {sc : Nat × (Nat → Int)} {μ : xM} {x3 s0 : Int} : AT sc 233 74 [vS, vR 0, vR 139, vI x3] [vI s0] (SK, μ) = xg sc.1 (wr (x3 + 1)) (xg sc.1 (wr (x3 + 2)) (xg sc.1 (wr (x3 + 3)) (xcI (EV sc 227 [vR 139, vI (sc.2 (wr (x3 + 1)).toNat), vI (sc.2 (wr (x3 + 2)).toNat), vI (sc.2 (wr (x3 + 3)).toNat)] (SK, μ)) fun v σ => AT sc 233 75 [vS, vR 0, vR 139, vI x3] [vI v, vI s0] σ))) := (AT_eq sc 233 74 _ _ _).trans rfl
set_option maxRecDepth 20000 in
theorem B233_75 {sc : Nat × (Nat → Int)} {μ : xM} {x3 s0 s1 : Int} : AT sc 233 75 [vS, vR 0, vR 139, vI x3] [vI s0, vI s1] (SK, μ) = if s1 = s0 then AT sc 233 88 [vS, vR 0, vR 139, vI x3] [] (SK, μ) else if (0 : Int) = 0 ∨ (0 : Int) = 1 then some (some (vI 0), (SK, μ)) else none := (AT_eq sc 233 75 _ _ _).trans rfl
set_option maxRecDepth 20000 in
theorem B233_76 {sc : Nat × (Nat → Int)} {μ : xM} {x3 : Int} : AT sc 233 76 [vS, vR 0, vR 139, vI x3] [] (SK, μ) = xcI (EV sc 155 [vR 0] (SK, μ)) fun v σ => AT sc 233 77 [vS, vR 0, vR 139, vI x3] [vI v] σ := (AT_eq sc 233 76 _ _ _).trans rfl
set_option maxRecDepth 20000 in
theorem B233_77 {sc : Nat × (Nat → Int)} {μ : xM} {x3 s0 : Int} : AT sc 233 77 [vS, vR 0, vR 139, vI x3] [vI s0] (SK, μ) = xcI (EV sc 228 [vR 139] (SK, μ)) fun v σ => AT sc 233 78 [vS, vR 0, vR 139, vI x3] [vI v, vI s0] σ := (AT_eq sc 233 77 _ _ _).trans rfl
set_option maxRecDepth 20000 in
theorem B233_78 {sc : Nat × (Nat → Int)} {μ : xM} {x3 s0 s1 : Int} : AT sc 233 78 [vS, vR 0, vR 139, vI x3] [vI s0, vI s1] (SK, μ) = if s1 = s0 then AT sc 233 88 [vS, vR 0, vR 139, vI x3] [] (SK, μ) else if (0 : Int) = 0 ∨ (0 : Int) = 1 then some (some (vI 0), (SK, μ)) else none := (AT_eq sc 233 78 _ _ _).trans rfl
set_option maxRecDepth 20000 in
theorem B233_79 {sc : Nat × (Nat → Int)} {μ : xM} {x3 : Int} : AT sc 233 79 [vS, vR 0, vR 139, vI x3] [] (SK, μ) = xcI (EV sc 156 [vR 0] (SK, μ)) fun v σ => AT sc 233 80 [vS, vR 0, vR 139, vI x3] [vI v] σ := (AT_eq sc 233 79 _ _ _).trans rfl
set_option maxRecDepth 20000 in
theorem B233_80 {sc : Nat × (Nat → Int)} {μ : xM} {x3 s0 : Int} : AT sc 233 80 [vS, vR 0, vR 139, vI x3] [vI s0] (SK, μ) = xcI (EV sc 229 [vR 139] (SK, μ)) fun v σ => AT sc 233 81 [vS, vR 0, vR 139, vI x3] [vI v, vI s0] σ := (AT_eq sc 233 80 _ _ _).trans rfl
set_option maxRecDepth 20000 in
theorem B233_81 {sc : Nat × (Nat → Int)} {μ : xM} {x3 s0 s1 : Int} : AT sc 233 81 [vS, vR 0, vR 139, vI x3] [vI s0, vI s1] (SK, μ) = if s1 = s0 then AT sc 233 88 [vS, vR 0, vR 139, vI x3] [] (SK, μ) else if (0 : Int) = 0 ∨ (0 : Int) = 1 then some (some (vI 0), (SK, μ)) else none := (AT_eq sc 233 81 _ _ _).trans rfl
set_option maxRecDepth 20000 in
theorem B233_82 {sc : Nat × (Nat → Int)} {μ : xM} {x3 : Int} : AT sc 233 82 [vS, vR 0, vR 139, vI x3] [] (SK, μ) = xcI (EV sc 157 [vR 0] (SK, μ)) fun v σ => AT sc 233 83 [vS, vR 0, vR 139, vI x3] [vI v] σ := (AT_eq sc 233 82 _ _ _).trans rfl
set_option maxRecDepth 20000 in
theorem B233_83 {sc : Nat × (Nat → Int)} {μ : xM} {x3 s0 : Int} : AT sc 233 83 [vS, vR 0, vR 139, vI x3] [vI s0] (SK, μ) = xcI (EV sc 230 [vR 139] (SK, μ)) fun v σ => AT sc 233 84 [vS, vR 0, vR 139, vI x3] [vI v, vI s0] σ := (AT_eq sc 233 83 _ _ _).trans rfl
set_option maxRecDepth 20000 in
theorem B233_84 {sc : Nat × (Nat → Int)} {μ : xM} {x3 s0 s1 : Int} : AT sc 233 84 [vS, vR 0, vR 139, vI x3] [vI s0, vI s1] (SK, μ) = if s1 = s0 then AT sc 233 88 [vS, vR 0, vR 139, vI x3] [] (SK, μ) else if (0 : Int) = 0 ∨ (0 : Int) = 1 then some (some (vI 0), (SK, μ)) else none := (AT_eq sc 233 84 _ _ _).trans rfl
set_option maxRecDepth 20000 in
theorem B233_85 {sc : Nat × (Nat → Int)} {μ : xM} {x3 : Int} : AT sc 233 85 [vS, vR 0, vR 139, vI x3] [] (SK, μ) = xg sc.1 (wr (x3 + 1)) (xcI (EV sc 158 [vR 0, vI (sc.2 (wr (x3 + 1)).toNat)] (SK, μ)) fun v σ => AT sc 233 86 [vS, vR 0, vR 139, vI x3] [vI v] σ) := (AT_eq sc 233 85 _ _ _).trans rfl
set_option maxRecDepth 20000 in
theorem B233_86 {sc : Nat × (Nat → Int)} {μ : xM} {x3 s0 : Int} : AT sc 233 86 [vS, vR 0, vR 139, vI x3] [vI s0] (SK, μ) = xg sc.1 (wr (x3 + 1)) (xcI (EV sc 231 [vR 139, vI (sc.2 (wr (x3 + 1)).toNat)] (SK, μ)) fun v σ => AT sc 233 87 [vS, vR 0, vR 139, vI x3] [vI v, vI s0] σ) := (AT_eq sc 233 86 _ _ _).trans rfl
set_option maxRecDepth 20000 in
theorem B233_87 {sc : Nat × (Nat → Int)} {μ : xM} {x3 s0 s1 : Int} : AT sc 233 87 [vS, vR 0, vR 139, vI x3] [vI s0, vI s1] (SK, μ) = if s1 = s0 then AT sc 233 88 [vS, vR 0, vR 139, vI x3] [] (SK, μ) else if (0 : Int) = 0 ∨ (0 : Int) = 1 then some (some (vI 0), (SK, μ)) else none := (AT_eq sc 233 87 _ _ _).trans rfl
set_option maxRecDepth 20000 in
theorem B233_88 {sc : Nat × (Nat → Int)} {μ : xM} {x3 : Int} : AT sc 233 88 [vS, vR 0, vR 139, vI x3] [] (SK, μ) = AT sc 233 5 [vS, vR 0, vR 139, vI (wr (x3 + 7))] [] (SK, μ) := (AT_eq sc 233 88 _ _ _).trans rfl
set_option maxRecDepth 20000 in
theorem B233_89 {sc : Nat × (Nat → Int)} {μ : xM} : AT sc 233 89 [vN, vN, vN, vN] [] (SK, μ) = if (1 : Int) = 0 ∨ (1 : Int) = 1 then some (some (vI 1), (SK, μ)) else none := (AT_eq sc 233 89 _ _ _).trans rfl
theorem KSK : KS151 = SK := rfl
theorem w0 {sc : Nat × (Nat → Int)} {μ : xM} : AT sc 233 0 [vS, vN, vN, vN] [] ([], μ) = xcI (EV sc 232 [vS, vI 0] (KS0, zr2 μ 0)) fun v σ => AT sc 233 1 [vS, vN, vN, vN] [vI v, vR 0, vR 0] σ := (AT_eq sc 233 0 _ _ _).trans rfl
theorem w1 {sc : Nat × (Nat → Int)} {μ : xM} {v : Int} : AT sc 233 1 [vS, vN, vN, vN] [vI v, vR 0, vR 0] (KS0, μ) = xcV (EV sc 132 [vR 0, vI v] (KS0, μ)) fun σ => AT sc 233 2 [vS, vN, vN, vN] [vR 0] σ := (AT_eq sc 233 1 _ _ _).trans rfl
set_option maxRecDepth 20000 in
theorem w2 {sc : Nat × (Nat → Int)} {μ : xM} : AT sc 233 2 [vS, vN, vN, vN] [vR 0] (KS149, μ) = xcI (EV sc 232 [vS, vI 0] (KS150, zr2 μ 139)) fun v σ => AT sc 233 3 [vS, vR 0, vN, vN] [vI v, vR 139, vR 139] σ := (AT_eq sc 233 2 _ _ _).trans rfl
theorem w3 {sc : Nat × (Nat → Int)} {μ : xM} {v : Int} : AT sc 233 3 [vS, vR 0, vN, vN] [vI v, vR 139, vR 139] (KS150, μ) = xcV (EV sc 165 [vR 139, vI v] (KS150, μ)) fun σ => AT sc 233 4 [vS, vR 0, vN, vN] [vR 139] σ := (AT_eq sc 233 3 _ _ _).trans rfl
theorem w4 {sc : Nat × (Nat → Int)} {μ : xM} : AT sc 233 4 [vS, vR 0, vN, vN] [vR 139] (KS151, μ) = AT sc 233 5 [vS, vR 0, vR 139, vI 1] [] (SK, μ) := (AT_eq sc 233 4 _ _ _).trans rfl

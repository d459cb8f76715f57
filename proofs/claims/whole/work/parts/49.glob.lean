/-! L2: the fixed cells of class and reference (0 the class's object, 16 its State, 29 its second, 49 the reference, 473 its row, 474 its second, 497 the law's). -/
def shX : List (Nat × Nat) := [(11, 15), (9, 8), (102, 600), (1, 3), (3, 5), (100, 150), (100, 150), (100, 150), (10, 8), (100, 150), (100, 150), (100, 150), (0, 6), (100, 6), (6, 4), (100, 6)] ++ (shC ++ (shC ++ ([(5, 2), (104, 16), (105, 3), (4, 2), (103, 64), (8, 1), (100, 4), (12, 37), (100, 600), (100, 4), (100, 3), (100, 3), (106, 160)] ++ (List.replicate 160 (100, 2) ++ ((106, 160) :: (List.replicate 160 (100, 2) ++ ((106, 6) :: (List.replicate 6 (100, 2) ++ ((106, 6) :: (List.replicate 6 (100, 2) ++ ((100, 160) :: (100, 4) :: (106, 80) :: (List.replicate 80 (100, 4) ++ ((100, 968) :: (100, 968) :: (106, 16) :: (List.replicate 16 (100, 968) ++ ((106, 3) :: (List.replicate 3 (100, 16457) ++ [(100, 60), (101, 1)]))))))))))))))))
def rfL : List (Nat × Nat × Nat) := [(0, 0, 1), (0, 1, 3), (0, 2, 4), (0, 3, 8), (0, 4, 12), (0, 5, 14), (0, 6, 16), (0, 7, 29), (0, 8, 42), (0, 9, 44), (0, 10, 45), (0, 11, 47), (0, 12, 48), (1, 0, 2), (4, 2, 7), (8, 0, 9), (8, 1, 10), (8, 2, 11), (12, 5, 13), (14, 0, 3), (14, 1, 4), (14, 2, 15), (42, 0, 43), (45, 0, 46), (49, 9, 50), (49, 10, 51), (49, 11, 52), (49, 12, 53), (49, 15, 54), (49, 16, 215), (49, 17, 376), (49, 18, 383), (49, 19, 390), (49, 20, 391), (49, 21, 392), (49, 23, 473), (49, 24, 474), (49, 25, 475), (49, 26, 492), (49, 34, 496)]
def rfA : List (Nat × Nat) := [(54, 160), (215, 160), (376, 6), (383, 6), (392, 80), (475, 16), (492, 3)]
def G (m : Mm) : Prop := (∀ i, i < 498 → (sH m)[i]? = shX[i]?) ∧ (∀ e ∈ rfL, rR m e.1 e.2.1 = some e.2.2) ∧ (∀ e ∈ rfA, ∀ i, i < e.2 → rR m e.1 i = some (e.1 + 1 + i)) ∧ (∀ a, a < 12 → rR m 16 (8 + a) = some (16 + (1 + a))) ∧ (∀ a, a < 12 → rR m 29 (8 + a) = some (29 + (1 + a)))
theorem shS54 : ∀ i, i < 160 → shX[54 + 1 + i]? = some (100, 2) := by decide +kernel
theorem shS215 : ∀ i, i < 160 → shX[215 + 1 + i]? = some (100, 2) := by decide +kernel
theorem shS376 : ∀ i, i < 6 → shX[376 + 1 + i]? = some (100, 2) := by decide +kernel
theorem shS383 : ∀ i, i < 6 → shX[383 + 1 + i]? = some (100, 2) := by decide +kernel
theorem shS392 : ∀ i, i < 80 → shX[392 + 1 + i]? = some (100, 4) := by decide +kernel
theorem shS475 : ∀ i, i < 16 → shX[475 + 1 + i]? = some (100, 968) := by decide +kernel
theorem shS492 : ∀ i, i < 3 → shX[492 + 1 + i]? = some (100, 16457) := by decide +kernel
theorem sx0 : shX[0]? = some (11, 15) := by decide +kernel
theorem gO0 {m : Mm} (g : G m) : okO m 0 11 = true := okO_of ((g.1 0 (by omega)).trans sx0)
theorem sx1 : shX[1]? = some (9, 8) := by decide +kernel
theorem gO1 {m : Mm} (g : G m) : okO m 1 9 = true := okO_of ((g.1 1 (by omega)).trans sx1)
theorem sx2 : shX[2]? = some (102, 600) := by decide +kernel
theorem gA2 {m : Mm} (g : G m) {i : Nat} (h : i < 600) : okA m 102 2 (ni i) = true := okA_of ((g.1 2 (by omega)).trans sx2) h (by omega)
theorem gK2 {m : Mm} (g : G m) {i : Nat} (h : i < 600) : okA m 102 2 (no_index (OfNat.ofNat i) : Int32) = true := okA_of ((g.1 2 (by omega)).trans sx2) h (by omega)
theorem gT2 {m : Mm} (g : G m) : okT m 102 2 = true := okT_of ((g.1 2 (by omega)).trans sx2)
theorem gN2 {m : Mm} (g : G m) : ln m 2 = ni 600 := ln_of ((g.1 2 (by omega)).trans sx2)
theorem sx3 : shX[3]? = some (1, 3) := by decide +kernel
theorem gO3 {m : Mm} (g : G m) : okO m 3 1 = true := okO_of ((g.1 3 (by omega)).trans sx3)
theorem sx4 : shX[4]? = some (3, 5) := by decide +kernel
theorem gO4 {m : Mm} (g : G m) : okO m 4 3 = true := okO_of ((g.1 4 (by omega)).trans sx4)
theorem sx5 : shX[5]? = some (100, 150) := by decide +kernel
theorem gA5 {m : Mm} (g : G m) {i : Nat} (h : i < 150) : okA m 100 5 (ni i) = true := okA_of ((g.1 5 (by omega)).trans sx5) h (by omega)
theorem gK5 {m : Mm} (g : G m) {i : Nat} (h : i < 150) : okA m 100 5 (no_index (OfNat.ofNat i) : Int32) = true := okA_of ((g.1 5 (by omega)).trans sx5) h (by omega)
theorem gT5 {m : Mm} (g : G m) : okT m 100 5 = true := okT_of ((g.1 5 (by omega)).trans sx5)
theorem gN5 {m : Mm} (g : G m) : ln m 5 = ni 150 := ln_of ((g.1 5 (by omega)).trans sx5)
theorem sx6 : shX[6]? = some (100, 150) := by decide +kernel
theorem gA6 {m : Mm} (g : G m) {i : Nat} (h : i < 150) : okA m 100 6 (ni i) = true := okA_of ((g.1 6 (by omega)).trans sx6) h (by omega)
theorem gK6 {m : Mm} (g : G m) {i : Nat} (h : i < 150) : okA m 100 6 (no_index (OfNat.ofNat i) : Int32) = true := okA_of ((g.1 6 (by omega)).trans sx6) h (by omega)
theorem gT6 {m : Mm} (g : G m) : okT m 100 6 = true := okT_of ((g.1 6 (by omega)).trans sx6)
theorem gN6 {m : Mm} (g : G m) : ln m 6 = ni 150 := ln_of ((g.1 6 (by omega)).trans sx6)
theorem sx7 : shX[7]? = some (100, 150) := by decide +kernel
theorem gA7 {m : Mm} (g : G m) {i : Nat} (h : i < 150) : okA m 100 7 (ni i) = true := okA_of ((g.1 7 (by omega)).trans sx7) h (by omega)
theorem gK7 {m : Mm} (g : G m) {i : Nat} (h : i < 150) : okA m 100 7 (no_index (OfNat.ofNat i) : Int32) = true := okA_of ((g.1 7 (by omega)).trans sx7) h (by omega)
theorem gT7 {m : Mm} (g : G m) : okT m 100 7 = true := okT_of ((g.1 7 (by omega)).trans sx7)
theorem gN7 {m : Mm} (g : G m) : ln m 7 = ni 150 := ln_of ((g.1 7 (by omega)).trans sx7)
theorem sx8 : shX[8]? = some (10, 8) := by decide +kernel
theorem gO8 {m : Mm} (g : G m) : okO m 8 10 = true := okO_of ((g.1 8 (by omega)).trans sx8)
theorem sx9 : shX[9]? = some (100, 150) := by decide +kernel
theorem gA9 {m : Mm} (g : G m) {i : Nat} (h : i < 150) : okA m 100 9 (ni i) = true := okA_of ((g.1 9 (by omega)).trans sx9) h (by omega)
theorem gK9 {m : Mm} (g : G m) {i : Nat} (h : i < 150) : okA m 100 9 (no_index (OfNat.ofNat i) : Int32) = true := okA_of ((g.1 9 (by omega)).trans sx9) h (by omega)
theorem gT9 {m : Mm} (g : G m) : okT m 100 9 = true := okT_of ((g.1 9 (by omega)).trans sx9)
theorem gN9 {m : Mm} (g : G m) : ln m 9 = ni 150 := ln_of ((g.1 9 (by omega)).trans sx9)
theorem sx10 : shX[10]? = some (100, 150) := by decide +kernel
theorem gA10 {m : Mm} (g : G m) {i : Nat} (h : i < 150) : okA m 100 10 (ni i) = true := okA_of ((g.1 10 (by omega)).trans sx10) h (by omega)
theorem gK10 {m : Mm} (g : G m) {i : Nat} (h : i < 150) : okA m 100 10 (no_index (OfNat.ofNat i) : Int32) = true := okA_of ((g.1 10 (by omega)).trans sx10) h (by omega)
theorem gT10 {m : Mm} (g : G m) : okT m 100 10 = true := okT_of ((g.1 10 (by omega)).trans sx10)
theorem gN10 {m : Mm} (g : G m) : ln m 10 = ni 150 := ln_of ((g.1 10 (by omega)).trans sx10)
theorem sx11 : shX[11]? = some (100, 150) := by decide +kernel
theorem gA11 {m : Mm} (g : G m) {i : Nat} (h : i < 150) : okA m 100 11 (ni i) = true := okA_of ((g.1 11 (by omega)).trans sx11) h (by omega)
theorem gK11 {m : Mm} (g : G m) {i : Nat} (h : i < 150) : okA m 100 11 (no_index (OfNat.ofNat i) : Int32) = true := okA_of ((g.1 11 (by omega)).trans sx11) h (by omega)
theorem gT11 {m : Mm} (g : G m) : okT m 100 11 = true := okT_of ((g.1 11 (by omega)).trans sx11)
theorem gN11 {m : Mm} (g : G m) : ln m 11 = ni 150 := ln_of ((g.1 11 (by omega)).trans sx11)
theorem sx12 : shX[12]? = some (0, 6) := by decide +kernel
theorem gO12 {m : Mm} (g : G m) : okO m 12 0 = true := okO_of ((g.1 12 (by omega)).trans sx12)
theorem sx13 : shX[13]? = some (100, 6) := by decide +kernel
theorem gA13 {m : Mm} (g : G m) {i : Nat} (h : i < 6) : okA m 100 13 (ni i) = true := okA_of ((g.1 13 (by omega)).trans sx13) h (by omega)
theorem gK13 {m : Mm} (g : G m) {i : Nat} (h : i < 6) : okA m 100 13 (no_index (OfNat.ofNat i) : Int32) = true := okA_of ((g.1 13 (by omega)).trans sx13) h (by omega)
theorem gT13 {m : Mm} (g : G m) : okT m 100 13 = true := okT_of ((g.1 13 (by omega)).trans sx13)
theorem gN13 {m : Mm} (g : G m) : ln m 13 = ni 6 := ln_of ((g.1 13 (by omega)).trans sx13)
theorem sx14 : shX[14]? = some (6, 4) := by decide +kernel
theorem gO14 {m : Mm} (g : G m) : okO m 14 6 = true := okO_of ((g.1 14 (by omega)).trans sx14)
theorem sx15 : shX[15]? = some (100, 6) := by decide +kernel
theorem gA15 {m : Mm} (g : G m) {i : Nat} (h : i < 6) : okA m 100 15 (ni i) = true := okA_of ((g.1 15 (by omega)).trans sx15) h (by omega)
theorem gK15 {m : Mm} (g : G m) {i : Nat} (h : i < 6) : okA m 100 15 (no_index (OfNat.ofNat i) : Int32) = true := okA_of ((g.1 15 (by omega)).trans sx15) h (by omega)
theorem gT15 {m : Mm} (g : G m) : okT m 100 15 = true := okT_of ((g.1 15 (by omega)).trans sx15)
theorem gN15 {m : Mm} (g : G m) : ln m 15 = ni 6 := ln_of ((g.1 15 (by omega)).trans sx15)
theorem sx16 : shX[16]? = some (7, 20) := by decide +kernel
theorem gO16 {m : Mm} (g : G m) : okO m 16 7 = true := okO_of ((g.1 16 (by omega)).trans sx16)
theorem sx29 : shX[29]? = some (7, 20) := by decide +kernel
theorem gO29 {m : Mm} (g : G m) : okO m 29 7 = true := okO_of ((g.1 29 (by omega)).trans sx29)
theorem sx42 : shX[42]? = some (5, 2) := by decide +kernel
theorem gO42 {m : Mm} (g : G m) : okO m 42 5 = true := okO_of ((g.1 42 (by omega)).trans sx42)
theorem sx43 : shX[43]? = some (104, 16) := by decide +kernel
theorem gA43 {m : Mm} (g : G m) {i : Nat} (h : i < 16) : okA m 104 43 (ni i) = true := okA_of ((g.1 43 (by omega)).trans sx43) h (by omega)
theorem gK43 {m : Mm} (g : G m) {i : Nat} (h : i < 16) : okA m 104 43 (no_index (OfNat.ofNat i) : Int32) = true := okA_of ((g.1 43 (by omega)).trans sx43) h (by omega)
theorem gT43 {m : Mm} (g : G m) : okT m 104 43 = true := okT_of ((g.1 43 (by omega)).trans sx43)
theorem gN43 {m : Mm} (g : G m) : ln m 43 = ni 16 := ln_of ((g.1 43 (by omega)).trans sx43)
theorem sx44 : shX[44]? = some (105, 3) := by decide +kernel
theorem gA44 {m : Mm} (g : G m) {i : Nat} (h : i < 3) : okA m 105 44 (ni i) = true := okA_of ((g.1 44 (by omega)).trans sx44) h (by omega)
theorem gK44 {m : Mm} (g : G m) {i : Nat} (h : i < 3) : okA m 105 44 (no_index (OfNat.ofNat i) : Int32) = true := okA_of ((g.1 44 (by omega)).trans sx44) h (by omega)
theorem gT44 {m : Mm} (g : G m) : okT m 105 44 = true := okT_of ((g.1 44 (by omega)).trans sx44)
theorem gN44 {m : Mm} (g : G m) : ln m 44 = ni 3 := ln_of ((g.1 44 (by omega)).trans sx44)
theorem sx45 : shX[45]? = some (4, 2) := by decide +kernel
theorem gO45 {m : Mm} (g : G m) : okO m 45 4 = true := okO_of ((g.1 45 (by omega)).trans sx45)
theorem sx46 : shX[46]? = some (103, 64) := by decide +kernel
theorem gA46 {m : Mm} (g : G m) {i : Nat} (h : i < 64) : okA m 103 46 (ni i) = true := okA_of ((g.1 46 (by omega)).trans sx46) h (by omega)
theorem gK46 {m : Mm} (g : G m) {i : Nat} (h : i < 64) : okA m 103 46 (no_index (OfNat.ofNat i) : Int32) = true := okA_of ((g.1 46 (by omega)).trans sx46) h (by omega)
theorem gT46 {m : Mm} (g : G m) : okT m 103 46 = true := okT_of ((g.1 46 (by omega)).trans sx46)
theorem gN46 {m : Mm} (g : G m) : ln m 46 = ni 64 := ln_of ((g.1 46 (by omega)).trans sx46)
theorem sx47 : shX[47]? = some (8, 1) := by decide +kernel
theorem gO47 {m : Mm} (g : G m) : okO m 47 8 = true := okO_of ((g.1 47 (by omega)).trans sx47)
theorem sx48 : shX[48]? = some (100, 4) := by decide +kernel
theorem gA48 {m : Mm} (g : G m) {i : Nat} (h : i < 4) : okA m 100 48 (ni i) = true := okA_of ((g.1 48 (by omega)).trans sx48) h (by omega)
theorem gK48 {m : Mm} (g : G m) {i : Nat} (h : i < 4) : okA m 100 48 (no_index (OfNat.ofNat i) : Int32) = true := okA_of ((g.1 48 (by omega)).trans sx48) h (by omega)
theorem gT48 {m : Mm} (g : G m) : okT m 100 48 = true := okT_of ((g.1 48 (by omega)).trans sx48)
theorem gN48 {m : Mm} (g : G m) : ln m 48 = ni 4 := ln_of ((g.1 48 (by omega)).trans sx48)
theorem sx49 : shX[49]? = some (12, 37) := by decide +kernel
theorem gO49 {m : Mm} (g : G m) : okO m 49 12 = true := okO_of ((g.1 49 (by omega)).trans sx49)
theorem sx50 : shX[50]? = some (100, 600) := by decide +kernel
theorem gA50 {m : Mm} (g : G m) {i : Nat} (h : i < 600) : okA m 100 50 (ni i) = true := okA_of ((g.1 50 (by omega)).trans sx50) h (by omega)
theorem gK50 {m : Mm} (g : G m) {i : Nat} (h : i < 600) : okA m 100 50 (no_index (OfNat.ofNat i) : Int32) = true := okA_of ((g.1 50 (by omega)).trans sx50) h (by omega)
theorem gT50 {m : Mm} (g : G m) : okT m 100 50 = true := okT_of ((g.1 50 (by omega)).trans sx50)
theorem gN50 {m : Mm} (g : G m) : ln m 50 = ni 600 := ln_of ((g.1 50 (by omega)).trans sx50)
theorem sx51 : shX[51]? = some (100, 4) := by decide +kernel
theorem gA51 {m : Mm} (g : G m) {i : Nat} (h : i < 4) : okA m 100 51 (ni i) = true := okA_of ((g.1 51 (by omega)).trans sx51) h (by omega)
theorem gK51 {m : Mm} (g : G m) {i : Nat} (h : i < 4) : okA m 100 51 (no_index (OfNat.ofNat i) : Int32) = true := okA_of ((g.1 51 (by omega)).trans sx51) h (by omega)
theorem gT51 {m : Mm} (g : G m) : okT m 100 51 = true := okT_of ((g.1 51 (by omega)).trans sx51)
theorem gN51 {m : Mm} (g : G m) : ln m 51 = ni 4 := ln_of ((g.1 51 (by omega)).trans sx51)
theorem sx52 : shX[52]? = some (100, 3) := by decide +kernel
theorem gA52 {m : Mm} (g : G m) {i : Nat} (h : i < 3) : okA m 100 52 (ni i) = true := okA_of ((g.1 52 (by omega)).trans sx52) h (by omega)
theorem gK52 {m : Mm} (g : G m) {i : Nat} (h : i < 3) : okA m 100 52 (no_index (OfNat.ofNat i) : Int32) = true := okA_of ((g.1 52 (by omega)).trans sx52) h (by omega)
theorem gT52 {m : Mm} (g : G m) : okT m 100 52 = true := okT_of ((g.1 52 (by omega)).trans sx52)
theorem gN52 {m : Mm} (g : G m) : ln m 52 = ni 3 := ln_of ((g.1 52 (by omega)).trans sx52)
theorem sx53 : shX[53]? = some (100, 3) := by decide +kernel
theorem gA53 {m : Mm} (g : G m) {i : Nat} (h : i < 3) : okA m 100 53 (ni i) = true := okA_of ((g.1 53 (by omega)).trans sx53) h (by omega)
theorem gK53 {m : Mm} (g : G m) {i : Nat} (h : i < 3) : okA m 100 53 (no_index (OfNat.ofNat i) : Int32) = true := okA_of ((g.1 53 (by omega)).trans sx53) h (by omega)
theorem gT53 {m : Mm} (g : G m) : okT m 100 53 = true := okT_of ((g.1 53 (by omega)).trans sx53)
theorem gN53 {m : Mm} (g : G m) : ln m 53 = ni 3 := ln_of ((g.1 53 (by omega)).trans sx53)
theorem sx54 : shX[54]? = some (106, 160) := by decide +kernel
theorem gA54 {m : Mm} (g : G m) {i : Nat} (h : i < 160) : okA m 106 54 (ni i) = true := okA_of ((g.1 54 (by omega)).trans sx54) h (by omega)
theorem gK54 {m : Mm} (g : G m) {i : Nat} (h : i < 160) : okA m 106 54 (no_index (OfNat.ofNat i) : Int32) = true := okA_of ((g.1 54 (by omega)).trans sx54) h (by omega)
theorem gT54 {m : Mm} (g : G m) : okT m 106 54 = true := okT_of ((g.1 54 (by omega)).trans sx54)
theorem gN54 {m : Mm} (g : G m) : ln m 54 = ni 160 := ln_of ((g.1 54 (by omega)).trans sx54)
theorem sx215 : shX[215]? = some (106, 160) := by decide +kernel
theorem gA215 {m : Mm} (g : G m) {i : Nat} (h : i < 160) : okA m 106 215 (ni i) = true := okA_of ((g.1 215 (by omega)).trans sx215) h (by omega)
theorem gK215 {m : Mm} (g : G m) {i : Nat} (h : i < 160) : okA m 106 215 (no_index (OfNat.ofNat i) : Int32) = true := okA_of ((g.1 215 (by omega)).trans sx215) h (by omega)
theorem gT215 {m : Mm} (g : G m) : okT m 106 215 = true := okT_of ((g.1 215 (by omega)).trans sx215)
theorem gN215 {m : Mm} (g : G m) : ln m 215 = ni 160 := ln_of ((g.1 215 (by omega)).trans sx215)
theorem sx376 : shX[376]? = some (106, 6) := by decide +kernel
theorem gA376 {m : Mm} (g : G m) {i : Nat} (h : i < 6) : okA m 106 376 (ni i) = true := okA_of ((g.1 376 (by omega)).trans sx376) h (by omega)
theorem gK376 {m : Mm} (g : G m) {i : Nat} (h : i < 6) : okA m 106 376 (no_index (OfNat.ofNat i) : Int32) = true := okA_of ((g.1 376 (by omega)).trans sx376) h (by omega)
theorem gT376 {m : Mm} (g : G m) : okT m 106 376 = true := okT_of ((g.1 376 (by omega)).trans sx376)
theorem gN376 {m : Mm} (g : G m) : ln m 376 = ni 6 := ln_of ((g.1 376 (by omega)).trans sx376)
theorem sx383 : shX[383]? = some (106, 6) := by decide +kernel
theorem gA383 {m : Mm} (g : G m) {i : Nat} (h : i < 6) : okA m 106 383 (ni i) = true := okA_of ((g.1 383 (by omega)).trans sx383) h (by omega)
theorem gK383 {m : Mm} (g : G m) {i : Nat} (h : i < 6) : okA m 106 383 (no_index (OfNat.ofNat i) : Int32) = true := okA_of ((g.1 383 (by omega)).trans sx383) h (by omega)
theorem gT383 {m : Mm} (g : G m) : okT m 106 383 = true := okT_of ((g.1 383 (by omega)).trans sx383)
theorem gN383 {m : Mm} (g : G m) : ln m 383 = ni 6 := ln_of ((g.1 383 (by omega)).trans sx383)
theorem sx390 : shX[390]? = some (100, 160) := by decide +kernel
theorem gA390 {m : Mm} (g : G m) {i : Nat} (h : i < 160) : okA m 100 390 (ni i) = true := okA_of ((g.1 390 (by omega)).trans sx390) h (by omega)
theorem gK390 {m : Mm} (g : G m) {i : Nat} (h : i < 160) : okA m 100 390 (no_index (OfNat.ofNat i) : Int32) = true := okA_of ((g.1 390 (by omega)).trans sx390) h (by omega)
theorem gT390 {m : Mm} (g : G m) : okT m 100 390 = true := okT_of ((g.1 390 (by omega)).trans sx390)
theorem gN390 {m : Mm} (g : G m) : ln m 390 = ni 160 := ln_of ((g.1 390 (by omega)).trans sx390)
theorem sx391 : shX[391]? = some (100, 4) := by decide +kernel
theorem gA391 {m : Mm} (g : G m) {i : Nat} (h : i < 4) : okA m 100 391 (ni i) = true := okA_of ((g.1 391 (by omega)).trans sx391) h (by omega)
theorem gK391 {m : Mm} (g : G m) {i : Nat} (h : i < 4) : okA m 100 391 (no_index (OfNat.ofNat i) : Int32) = true := okA_of ((g.1 391 (by omega)).trans sx391) h (by omega)
theorem gT391 {m : Mm} (g : G m) : okT m 100 391 = true := okT_of ((g.1 391 (by omega)).trans sx391)
theorem gN391 {m : Mm} (g : G m) : ln m 391 = ni 4 := ln_of ((g.1 391 (by omega)).trans sx391)
theorem sx392 : shX[392]? = some (106, 80) := by decide +kernel
theorem gA392 {m : Mm} (g : G m) {i : Nat} (h : i < 80) : okA m 106 392 (ni i) = true := okA_of ((g.1 392 (by omega)).trans sx392) h (by omega)
theorem gK392 {m : Mm} (g : G m) {i : Nat} (h : i < 80) : okA m 106 392 (no_index (OfNat.ofNat i) : Int32) = true := okA_of ((g.1 392 (by omega)).trans sx392) h (by omega)
theorem gT392 {m : Mm} (g : G m) : okT m 106 392 = true := okT_of ((g.1 392 (by omega)).trans sx392)
theorem gN392 {m : Mm} (g : G m) : ln m 392 = ni 80 := ln_of ((g.1 392 (by omega)).trans sx392)
theorem sx473 : shX[473]? = some (100, 968) := by decide +kernel
theorem gA473 {m : Mm} (g : G m) {i : Nat} (h : i < 968) : okA m 100 473 (ni i) = true := okA_of ((g.1 473 (by omega)).trans sx473) h (by omega)
theorem gK473 {m : Mm} (g : G m) {i : Nat} (h : i < 968) : okA m 100 473 (no_index (OfNat.ofNat i) : Int32) = true := okA_of ((g.1 473 (by omega)).trans sx473) h (by omega)
theorem gT473 {m : Mm} (g : G m) : okT m 100 473 = true := okT_of ((g.1 473 (by omega)).trans sx473)
theorem gN473 {m : Mm} (g : G m) : ln m 473 = ni 968 := ln_of ((g.1 473 (by omega)).trans sx473)
theorem sx474 : shX[474]? = some (100, 968) := by decide +kernel
theorem gA474 {m : Mm} (g : G m) {i : Nat} (h : i < 968) : okA m 100 474 (ni i) = true := okA_of ((g.1 474 (by omega)).trans sx474) h (by omega)
theorem gK474 {m : Mm} (g : G m) {i : Nat} (h : i < 968) : okA m 100 474 (no_index (OfNat.ofNat i) : Int32) = true := okA_of ((g.1 474 (by omega)).trans sx474) h (by omega)
theorem gT474 {m : Mm} (g : G m) : okT m 100 474 = true := okT_of ((g.1 474 (by omega)).trans sx474)
theorem gN474 {m : Mm} (g : G m) : ln m 474 = ni 968 := ln_of ((g.1 474 (by omega)).trans sx474)
theorem sx475 : shX[475]? = some (106, 16) := by decide +kernel
theorem gA475 {m : Mm} (g : G m) {i : Nat} (h : i < 16) : okA m 106 475 (ni i) = true := okA_of ((g.1 475 (by omega)).trans sx475) h (by omega)
theorem gK475 {m : Mm} (g : G m) {i : Nat} (h : i < 16) : okA m 106 475 (no_index (OfNat.ofNat i) : Int32) = true := okA_of ((g.1 475 (by omega)).trans sx475) h (by omega)
theorem gT475 {m : Mm} (g : G m) : okT m 106 475 = true := okT_of ((g.1 475 (by omega)).trans sx475)
theorem gN475 {m : Mm} (g : G m) : ln m 475 = ni 16 := ln_of ((g.1 475 (by omega)).trans sx475)
theorem sx492 : shX[492]? = some (106, 3) := by decide +kernel
theorem gA492 {m : Mm} (g : G m) {i : Nat} (h : i < 3) : okA m 106 492 (ni i) = true := okA_of ((g.1 492 (by omega)).trans sx492) h (by omega)
theorem gK492 {m : Mm} (g : G m) {i : Nat} (h : i < 3) : okA m 106 492 (no_index (OfNat.ofNat i) : Int32) = true := okA_of ((g.1 492 (by omega)).trans sx492) h (by omega)
theorem gT492 {m : Mm} (g : G m) : okT m 106 492 = true := okT_of ((g.1 492 (by omega)).trans sx492)
theorem gN492 {m : Mm} (g : G m) : ln m 492 = ni 3 := ln_of ((g.1 492 (by omega)).trans sx492)
theorem sx496 : shX[496]? = some (100, 60) := by decide +kernel
theorem gA496 {m : Mm} (g : G m) {i : Nat} (h : i < 60) : okA m 100 496 (ni i) = true := okA_of ((g.1 496 (by omega)).trans sx496) h (by omega)
theorem gK496 {m : Mm} (g : G m) {i : Nat} (h : i < 60) : okA m 100 496 (no_index (OfNat.ofNat i) : Int32) = true := okA_of ((g.1 496 (by omega)).trans sx496) h (by omega)
theorem gT496 {m : Mm} (g : G m) : okT m 100 496 = true := okT_of ((g.1 496 (by omega)).trans sx496)
theorem gN496 {m : Mm} (g : G m) : ln m 496 = ni 60 := ln_of ((g.1 496 (by omega)).trans sx496)
theorem sx497 : shX[497]? = some (101, 1) := by decide +kernel
theorem gA497 {m : Mm} (g : G m) {i : Nat} (h : i < 1) : okA m 101 497 (ni i) = true := okA_of ((g.1 497 (by omega)).trans sx497) h (by omega)
theorem gK497 {m : Mm} (g : G m) {i : Nat} (h : i < 1) : okA m 101 497 (no_index (OfNat.ofNat i) : Int32) = true := okA_of ((g.1 497 (by omega)).trans sx497) h (by omega)
theorem gT497 {m : Mm} (g : G m) : okT m 101 497 = true := okT_of ((g.1 497 (by omega)).trans sx497)
theorem gN497 {m : Mm} (g : G m) : ln m 497 = ni 1 := ln_of ((g.1 497 (by omega)).trans sx497)
theorem gR0_0 {m : Mm} (g : G m) : rR m 0 0 = some 1 := g.2.1 (0, 0, 1) (by decide)
theorem gR0_1 {m : Mm} (g : G m) : rR m 0 1 = some 3 := g.2.1 (0, 1, 3) (by decide)
theorem gR0_2 {m : Mm} (g : G m) : rR m 0 2 = some 4 := g.2.1 (0, 2, 4) (by decide)
theorem gR0_3 {m : Mm} (g : G m) : rR m 0 3 = some 8 := g.2.1 (0, 3, 8) (by decide)
theorem gR0_4 {m : Mm} (g : G m) : rR m 0 4 = some 12 := g.2.1 (0, 4, 12) (by decide)
theorem gR0_5 {m : Mm} (g : G m) : rR m 0 5 = some 14 := g.2.1 (0, 5, 14) (by decide)
theorem gR0_6 {m : Mm} (g : G m) : rR m 0 6 = some 16 := g.2.1 (0, 6, 16) (by decide)
theorem gR0_7 {m : Mm} (g : G m) : rR m 0 7 = some 29 := g.2.1 (0, 7, 29) (by decide)
theorem gR0_8 {m : Mm} (g : G m) : rR m 0 8 = some 42 := g.2.1 (0, 8, 42) (by decide)
theorem gR0_9 {m : Mm} (g : G m) : rR m 0 9 = some 44 := g.2.1 (0, 9, 44) (by decide)
theorem gR0_10 {m : Mm} (g : G m) : rR m 0 10 = some 45 := g.2.1 (0, 10, 45) (by decide)
theorem gR0_11 {m : Mm} (g : G m) : rR m 0 11 = some 47 := g.2.1 (0, 11, 47) (by decide)
theorem gR0_12 {m : Mm} (g : G m) : rR m 0 12 = some 48 := g.2.1 (0, 12, 48) (by decide)
theorem gR1_0 {m : Mm} (g : G m) : rR m 1 0 = some 2 := g.2.1 (1, 0, 2) (by decide)
theorem gR4_2 {m : Mm} (g : G m) : rR m 4 2 = some 7 := g.2.1 (4, 2, 7) (by decide)
theorem gR8_0 {m : Mm} (g : G m) : rR m 8 0 = some 9 := g.2.1 (8, 0, 9) (by decide)
theorem gR8_1 {m : Mm} (g : G m) : rR m 8 1 = some 10 := g.2.1 (8, 1, 10) (by decide)
theorem gR8_2 {m : Mm} (g : G m) : rR m 8 2 = some 11 := g.2.1 (8, 2, 11) (by decide)
theorem gR12_5 {m : Mm} (g : G m) : rR m 12 5 = some 13 := g.2.1 (12, 5, 13) (by decide)
theorem gR14_0 {m : Mm} (g : G m) : rR m 14 0 = some 3 := g.2.1 (14, 0, 3) (by decide)
theorem gR14_1 {m : Mm} (g : G m) : rR m 14 1 = some 4 := g.2.1 (14, 1, 4) (by decide)
theorem gR14_2 {m : Mm} (g : G m) : rR m 14 2 = some 15 := g.2.1 (14, 2, 15) (by decide)
theorem gR42_0 {m : Mm} (g : G m) : rR m 42 0 = some 43 := g.2.1 (42, 0, 43) (by decide)
theorem gR45_0 {m : Mm} (g : G m) : rR m 45 0 = some 46 := g.2.1 (45, 0, 46) (by decide)
theorem gR49_9 {m : Mm} (g : G m) : rR m 49 9 = some 50 := g.2.1 (49, 9, 50) (by decide)
theorem gR49_10 {m : Mm} (g : G m) : rR m 49 10 = some 51 := g.2.1 (49, 10, 51) (by decide)
theorem gR49_11 {m : Mm} (g : G m) : rR m 49 11 = some 52 := g.2.1 (49, 11, 52) (by decide)
theorem gR49_12 {m : Mm} (g : G m) : rR m 49 12 = some 53 := g.2.1 (49, 12, 53) (by decide)
theorem gR49_15 {m : Mm} (g : G m) : rR m 49 15 = some 54 := g.2.1 (49, 15, 54) (by decide)
theorem gR49_16 {m : Mm} (g : G m) : rR m 49 16 = some 215 := g.2.1 (49, 16, 215) (by decide)
theorem gR49_17 {m : Mm} (g : G m) : rR m 49 17 = some 376 := g.2.1 (49, 17, 376) (by decide)
theorem gR49_18 {m : Mm} (g : G m) : rR m 49 18 = some 383 := g.2.1 (49, 18, 383) (by decide)
theorem gR49_19 {m : Mm} (g : G m) : rR m 49 19 = some 390 := g.2.1 (49, 19, 390) (by decide)
theorem gR49_20 {m : Mm} (g : G m) : rR m 49 20 = some 391 := g.2.1 (49, 20, 391) (by decide)
theorem gR49_21 {m : Mm} (g : G m) : rR m 49 21 = some 392 := g.2.1 (49, 21, 392) (by decide)
theorem gR49_23 {m : Mm} (g : G m) : rR m 49 23 = some 473 := g.2.1 (49, 23, 473) (by decide)
theorem gR49_24 {m : Mm} (g : G m) : rR m 49 24 = some 474 := g.2.1 (49, 24, 474) (by decide)
theorem gR49_25 {m : Mm} (g : G m) : rR m 49 25 = some 475 := g.2.1 (49, 25, 475) (by decide)
theorem gR49_26 {m : Mm} (g : G m) : rR m 49 26 = some 492 := g.2.1 (49, 26, 492) (by decide)
theorem gR49_34 {m : Mm} (g : G m) : rR m 49 34 = some 496 := g.2.1 (49, 34, 496) (by decide)
theorem gF54 {m : Mm} (g : G m) {i : Nat} (h : i < 160) : rR m 54 i = some (54 + 1 + i) := g.2.2.1 (54, 160) (by decide) i h
theorem gS54 {m : Mm} (g : G m) {i : Nat} (h : i < 160) : (sH m)[54 + 1 + i]? = some (100, 2) := (g.1 _ (by omega)).trans (shS54 i h)
theorem gB54 {m : Mm} (g : G m) {i j : Nat} (h : i < 160) (hj : j < 2) : okA m 100 (54 + 1 + i) (ni j) = true := okA_of (gS54 g h) hj (by omega)
theorem gC54 {m : Mm} (g : G m) {i j : Nat} (h : i < 160) (hj : j < 2) : okA m 100 (54 + 1 + i) (no_index (OfNat.ofNat j) : Int32) = true := okA_of (gS54 g h) hj (by omega)
theorem gF215 {m : Mm} (g : G m) {i : Nat} (h : i < 160) : rR m 215 i = some (215 + 1 + i) := g.2.2.1 (215, 160) (by decide) i h
theorem gS215 {m : Mm} (g : G m) {i : Nat} (h : i < 160) : (sH m)[215 + 1 + i]? = some (100, 2) := (g.1 _ (by omega)).trans (shS215 i h)
theorem gB215 {m : Mm} (g : G m) {i j : Nat} (h : i < 160) (hj : j < 2) : okA m 100 (215 + 1 + i) (ni j) = true := okA_of (gS215 g h) hj (by omega)
theorem gC215 {m : Mm} (g : G m) {i j : Nat} (h : i < 160) (hj : j < 2) : okA m 100 (215 + 1 + i) (no_index (OfNat.ofNat j) : Int32) = true := okA_of (gS215 g h) hj (by omega)
theorem gF376 {m : Mm} (g : G m) {i : Nat} (h : i < 6) : rR m 376 i = some (376 + 1 + i) := g.2.2.1 (376, 6) (by decide) i h
theorem gS376 {m : Mm} (g : G m) {i : Nat} (h : i < 6) : (sH m)[376 + 1 + i]? = some (100, 2) := (g.1 _ (by omega)).trans (shS376 i h)
theorem gB376 {m : Mm} (g : G m) {i j : Nat} (h : i < 6) (hj : j < 2) : okA m 100 (376 + 1 + i) (ni j) = true := okA_of (gS376 g h) hj (by omega)
theorem gC376 {m : Mm} (g : G m) {i j : Nat} (h : i < 6) (hj : j < 2) : okA m 100 (376 + 1 + i) (no_index (OfNat.ofNat j) : Int32) = true := okA_of (gS376 g h) hj (by omega)
theorem gF383 {m : Mm} (g : G m) {i : Nat} (h : i < 6) : rR m 383 i = some (383 + 1 + i) := g.2.2.1 (383, 6) (by decide) i h
theorem gS383 {m : Mm} (g : G m) {i : Nat} (h : i < 6) : (sH m)[383 + 1 + i]? = some (100, 2) := (g.1 _ (by omega)).trans (shS383 i h)
theorem gB383 {m : Mm} (g : G m) {i j : Nat} (h : i < 6) (hj : j < 2) : okA m 100 (383 + 1 + i) (ni j) = true := okA_of (gS383 g h) hj (by omega)
theorem gC383 {m : Mm} (g : G m) {i j : Nat} (h : i < 6) (hj : j < 2) : okA m 100 (383 + 1 + i) (no_index (OfNat.ofNat j) : Int32) = true := okA_of (gS383 g h) hj (by omega)
theorem gF392 {m : Mm} (g : G m) {i : Nat} (h : i < 80) : rR m 392 i = some (392 + 1 + i) := g.2.2.1 (392, 80) (by decide) i h
theorem gS392 {m : Mm} (g : G m) {i : Nat} (h : i < 80) : (sH m)[392 + 1 + i]? = some (100, 4) := (g.1 _ (by omega)).trans (shS392 i h)
theorem gB392 {m : Mm} (g : G m) {i j : Nat} (h : i < 80) (hj : j < 4) : okA m 100 (392 + 1 + i) (ni j) = true := okA_of (gS392 g h) hj (by omega)
theorem gC392 {m : Mm} (g : G m) {i j : Nat} (h : i < 80) (hj : j < 4) : okA m 100 (392 + 1 + i) (no_index (OfNat.ofNat j) : Int32) = true := okA_of (gS392 g h) hj (by omega)
theorem gF475 {m : Mm} (g : G m) {i : Nat} (h : i < 16) : rR m 475 i = some (475 + 1 + i) := g.2.2.1 (475, 16) (by decide) i h
theorem gS475 {m : Mm} (g : G m) {i : Nat} (h : i < 16) : (sH m)[475 + 1 + i]? = some (100, 968) := (g.1 _ (by omega)).trans (shS475 i h)
theorem gB475 {m : Mm} (g : G m) {i j : Nat} (h : i < 16) (hj : j < 968) : okA m 100 (475 + 1 + i) (ni j) = true := okA_of (gS475 g h) hj (by omega)
theorem gC475 {m : Mm} (g : G m) {i j : Nat} (h : i < 16) (hj : j < 968) : okA m 100 (475 + 1 + i) (no_index (OfNat.ofNat j) : Int32) = true := okA_of (gS475 g h) hj (by omega)
theorem gF492 {m : Mm} (g : G m) {i : Nat} (h : i < 3) : rR m 492 i = some (492 + 1 + i) := g.2.2.1 (492, 3) (by decide) i h
theorem gS492 {m : Mm} (g : G m) {i : Nat} (h : i < 3) : (sH m)[492 + 1 + i]? = some (100, 16457) := (g.1 _ (by omega)).trans (shS492 i h)
theorem gB492 {m : Mm} (g : G m) {i j : Nat} (h : i < 3) (hj : j < 16457) : okA m 100 (492 + 1 + i) (ni j) = true := okA_of (gS492 g h) hj (by omega)
theorem gC492 {m : Mm} (g : G m) {i j : Nat} (h : i < 3) (hj : j < 16457) : okA m 100 (492 + 1 + i) (no_index (OfNat.ofNat j) : Int32) = true := okA_of (gS492 g h) hj (by omega)
theorem G_fr {A : Nat → Prop} {m m' : Mm} (h : Fm A m m') (g : G m) : G m' := by
  unfold G
  rw [h.2.2.1, h.2.1]
  exact g
theorem G_wI {m : Mm} {a j : Nat} {v : Int32} (g : G m) : G (wI m a j v) := g
theorem G_wL {m : Mm} {a j : Nat} {v : Int64} (g : G m) : G (wL m a j v) := g
theorem shX16 : ∀ a, a ≤ 12 → shX[16 + a]? = shC[a]? := by decide +kernel
theorem shX29 : ∀ a, a ≤ 12 → shX[29 + a]? = shC[a]? := by decide +kernel
theorem G_16 {m : Mm} (g : G m) : CSh m 16 := ⟨fun a ha => (g.1 _ (by omega)).trans (shX16 a ha), g.2.2.2.1⟩
theorem G_29 {m : Mm} (g : G m) : CSh m 29 := ⟨fun a ha => (g.1 _ (by omega)).trans (shX29 a ha), g.2.2.2.2⟩
theorem G_s {m : Mm} {s : Nat} (g : G m) (hs : s = 16 ∨ s = 29) : CSh m s := by
  rcases hs with rfl | rfl
  · exact G_16 g
  · exact G_29 g
theorem G_RLs {m : Mm} (g : G m) : RLs 49 54 390 391 m :=
  ⟨(g.1 49 (by omega)).trans sx49, gR49_15 g, gR49_19 g, gR49_20 g, (g.1 54 (by omega)).trans sx54, fun i hi => gF54 g hi, fun i hi => gS54 g hi, (g.1 390 (by omega)).trans sx390, (g.1 391 (by omega)).trans sx391, by omega, by omega, by omega, by omega, by omega⟩
theorem G_MC {m : Mm} {w n : Nat} {lim : Int32} (g : G m) (hw : w = 473 ∨ w = 474) (h1 : rI m 53 0 = ni n) (h2 : rI m 53 2 = lim) (hn : n ≤ 6) : MC 49 53 w n lim m := by
  refine ⟨(g.1 49 (by omega)).trans sx49, gR49_12 g, (g.1 53 (by omega)).trans sx53, h1, h2, ?_, by omega, hn⟩
  rcases hw with rfl | rfl
  · exact (g.1 473 (by omega)).trans sx473
  · exact (g.1 474 (by omega)).trans sx474

def xtC0 : List xU := []
theorem xoC0 : ∀ u ∈ xtC0, x_uok x_B u := fun u h => by cases h
/-- WashAndDry$Things.washTime -/
def xuC0 : xU := (117, 1, [(0, 2, 0, 0), (1, 0, (-2147483648), 2147483647), (1, 0, (-2147483648), 2147483647), (1, 0, (-2147483648), 2147483647)], [], (1, 1, 2147483647))
theorem xsC0 : x_uok x_B xuC0 := x_chk_ok (n := 20000) (ks := []) xoC0 (by decide +kernel)
def xtC1 : List xU := xuC0 :: xtC0
theorem xoC1 : ∀ u ∈ xtC1, x_uok x_B u := x_tab xsC0 xoC0
/-- WashAndDry$Things.dryTime -/
def xuC1 : xU := (119, 1, [(0, 2, 0, 0), (1, 0, (-2147483648), 2147483647)], [], (1, (-2147483648), 2147483647))
theorem xsC1 : x_uok x_B xuC1 := x_chk_ok (n := 20000) (ks := []) xoC1 (by decide +kernel)
def xtC2 : List xU := xuC1 :: xtC1
theorem xoC2 : ∀ u ∈ xtC2, x_uok x_B u := x_tab xsC1 xoC1
/-- WashAndDry$Things.drips -/
def xuC2 : xU := (121, 1, [(0, 2, 0, 0), (1, 0, (-2147483648), 2147483647)], [], (1, 0, 1))
theorem xsC2 : x_uok x_B xuC2 := x_chk_ok (n := 20000) (ks := []) xoC2 (by decide +kernel)
def xtC3 : List xU := xuC2 :: xtC2
theorem xoC3 : ∀ u ∈ xtC3, x_uok x_B u := x_tab xsC2 xoC2
/-- WashAndDry$Things.bothTimes -/
def xuC3 : xU := (120, 3, [(0, 2, 0, 0), (1, 0, (-2147483648), 2147483647)], [], (1, (-2147483648), 2147483647))
theorem xsC3 : x_uok x_B xuC3 := x_chk_ok (n := 20000) (ks := []) xoC3 (by decide +kernel)
def xtC4 : List xU := xuC3 :: xtC3
theorem xoC4 : ∀ u ∈ xtC4, x_uok x_B u := x_tab xsC3 xoC3
/-- WashAndDry$Things.cleanWashTime -/
def xuC4 : xU := (118, 2, [(0, 2, 0, 0), (1, 0, (-2147483648), 2147483647)], [], (1, 1, 2147483647))
theorem xsC4 : x_uok x_B xuC4 := x_chk_ok (n := 20000) (ks := []) xoC4 (by decide +kernel)
def xtC5 : List xU := xuC4 :: xtC4
theorem xoC5 : ∀ u ∈ xtC5, x_uok x_B u := x_tab xsC4 xoC4
/-- WashAndDry$Order.mayBe -/
def xuC5 : xU := (97, 1, [(0, 4, 0, 0), (0, 2, 0, 0)], [], (1, 0, 1))
theorem xsC5 : x_uok x_B xuC5 := x_chk_ok (n := 20000) (ks := [(97, [(4, [(2, 0, 1), (3, 0, 8)], [], [], [], 1, true)], [], [(4, [4])], [])]) xoC5 (by decide +kernel)
def xtC6 : List xU := xuC5 :: xtC5
theorem xoC6 : ∀ u ∈ xtC6, x_uok x_B u := x_tab xsC5 xoC5
/-- WashAndDry$Order.mayBe -/
def xuC6 : xU := (97, 1, [(0, 45, 0, 0), (0, 2, 0, 0)], [], (1, 0, 1))
theorem xsC6 : x_uok x_B xuC6 := x_chk_ok (n := 20000) (ks := [(97, [(4, [(2, 0, 1), (3, 0, 8)], [], [], [], 1, true)], [], [(4, [4])], [])]) xoC6 (by decide +kernel)
def xtC7 : List xU := xuC6 :: xtC6
theorem xoC7 : ∀ u ∈ xtC7, x_uok x_B u := x_tab xsC6 xoC6
/-- WashAndDry$Order.mayBe -/
def xuC7 : xU := (97, 1, [(0, 50, 0, 0), (0, 2, 0, 0)], [], (1, 0, 1))
theorem xsC7 : x_uok x_B xuC7 := x_chk_ok (n := 20000) (ks := [(97, [(4, [(2, 0, 1), (3, 0, 8)], [], [], [], 1, true)], [], [(4, [4])], [])]) xoC7 (by decide +kernel)
def xtC8 : List xU := xuC7 :: xtC7
theorem xoC8 : ∀ u ∈ xtC8, x_uok x_B u := x_tab xsC7 xoC7
/-- WashAndDry$Evening.minuteOf -/
def xuC8 : xU := (55, 0, [(0, 39, 0, 0), (1, 0, (-2147483648), 2147483647), (1, 0, (-2147483648), 2147483647)], [], (1, (-2147483648), 2147483647))
theorem xsC8 : x_uok x_B xuC8 := x_chk_ok (n := 20000) (ks := []) xoC8 (by decide +kernel)
def xtC9 : List xU := xuC8 :: xtC8
theorem xoC9 : ∀ u ∈ xtC9, x_uok x_B u := x_tab xsC8 xoC8
/-- WashAndDry$Evening.note -/
def xuC9 : xU := (59, 0, [(0, 39, 0, 0), (1, 0, (-2147483648), 2147483647), (1, 0, (-2147483648), 2147483647), (1, 0, (-2147483648), 2147483647)], [(40, 0, 40)], (0, 0, 0))
theorem xsC9 : x_uok x_B xuC9 := x_chk_ok (n := 20000) (ks := []) xoC9 (by decide +kernel)
def xtC10 : List xU := xuC9 :: xtC9
theorem xoC10 : ∀ u ∈ xtC10, x_uok x_B u := x_tab xsC9 xoC9
/-- WashAndDry$Evening.roomFrom -/
def xuC10 : xU := (62, 1, [(0, 39, 0, 0), (1, 0, (-2147483648), 2147483646), (1, 0, (-2147483648), 2147483647), (1, 0, (-2147483648), 2147483647)], [], (1, (-2147483648), 2147483647))
theorem xsC10 : x_uok x_B xuC10 := x_chk_ok (n := 20000) (ks := [(62, [(9, [(4, (-2147483648), 2147483647), (5, 0, 2147483647)], [], [(39, 5, 6)], [], 1, true), (33, [(6, (-2147483648), 2147483647), (7, (-2147483647), 1000000000), (8, 0, 2147483647)], [], [(39, 5, 6)], [], 2, true)], [], [(9, [6, 7, 8, 9]), (33, [9])], [])]) xoC10 (by decide +kernel)
def xtC11 : List xU := xuC10 :: xtC10
theorem xoC11 : ∀ u ∈ xtC11, x_uok x_B u := x_tab xsC10 xoC10
/-- WashAndDry$Evening.setDown -/
def xuC11 : xU := (61, 2, [(0, 39, 0, 0), (1, 0, (-2147483648), 2147483646), (1, 0, (-2147483648), 2147483647), (1, 0, (-2147483648), 2147483647)], [(39, 5, 7), (39, 8, 11), (39, 13, 14), (40, 0, 40)], (0, 0, 0))
theorem xsC11 : x_uok x_B xuC11 := x_chk_ok (n := 20000) (ks := []) xoC11 (by decide +kernel)
def xtC12 : List xU := xuC11 :: xtC11
theorem xoC12 : ∀ u ∈ xtC12, x_uok x_B u := x_tab xsC11 xoC11
/-- WashAndDry$Evening.hangCloth -/
def xuC12 : xU := (64, 1, [(0, 39, 0, 0), (1, 0, (-2147483648), 2147483647), (1, 0, (-2147483648), 2147483647)], [(39, 7, 9), (39, 12, 13), (42, 0, 3)], (0, 0, 0))
theorem xsC12 : x_uok x_B xuC12 := x_chk_ok (n := 20000) (ks := [(64, [(39, [(3, 1, 2147483647)], [], [(39, 6, 7), (39, 8, 9), (39, 12, 13)], [], 0, true)], [], [], [])]) xoC12 (by decide +kernel)
def xtC13 : List xU := xuC12 :: xtC12
theorem xoC13 : ∀ u ∈ xtC13, x_uok x_B u := x_tab xsC12 xoC12
/-- WashAndDry$Evening.go -/
def xuC13 : xU := (53, 3, [(0, 39, 0, 0), (0, 4, 0, 0), (0, 6, 0, 0), (1, 0, (-2147483648), 2147483647)], [(39, 4, 14), (40, 0, 40), (41, 0, 8), (42, 0, 3)], (0, 0, 0))
theorem xsC13 : x_uok x_B xuC13 := x_chk_ok (n := 20000) (ks := [(58, [(52, [(2, 0, 3)], [], [(39, 4, 14)], [], 0, true)], [], [], []), (53, [(8, [(4, 0, 8)], [], [], [], 0, true)], [], [(8, [5])], [])]) xoC13 (by decide +kernel)
def xtC14 : List xU := xuC13 :: xtC13
theorem xoC14 : ∀ u ∈ xtC14, x_uok x_B u := x_tab xsC13 xoC13
/-- WashAndDry$Evening.go -/
def xuC14 : xU := (53, 3, [(0, 39, 0, 0), (0, 4, 0, 0), (0, 47, 0, 0), (1, 0, (-2147483648), 2147483647)], [(39, 4, 14), (40, 0, 40), (41, 0, 8), (42, 0, 3)], (0, 0, 0))
theorem xsC14 : x_uok x_B xuC14 := x_chk_ok (n := 20000) (ks := [(58, [(52, [(2, 0, 3)], [], [(39, 4, 14)], [], 0, true)], [], [], []), (53, [(8, [(4, 0, 8)], [], [], [], 0, true)], [], [(8, [5])], [])]) xoC14 (by decide +kernel)
def xtC15 : List xU := xuC14 :: xtC14
theorem xoC15 : ∀ u ∈ xtC15, x_uok x_B u := x_tab xsC14 xoC14
/-- WashAndDry$Evening.go -/
def xuC15 : xU := (53, 3, [(0, 39, 0, 0), (0, 45, 0, 0), (0, 6, 0, 0), (1, 0, (-2147483648), 2147483647)], [(39, 4, 14), (40, 0, 40), (41, 0, 8), (42, 0, 3)], (0, 0, 0))
theorem xsC15 : x_uok x_B xuC15 := x_chk_ok (n := 20000) (ks := [(58, [(52, [(2, 0, 3)], [], [(39, 4, 14)], [], 0, true)], [], [], []), (53, [(8, [(4, 0, 8)], [], [], [], 0, true)], [], [(8, [5])], [])]) xoC15 (by decide +kernel)
def xtC16 : List xU := xuC15 :: xtC15
theorem xoC16 : ∀ u ∈ xtC16, x_uok x_B u := x_tab xsC15 xoC15
/-- WashAndDry$Evening.go -/
def xuC16 : xU := (53, 3, [(0, 39, 0, 0), (0, 50, 0, 0), (0, 6, 0, 0), (1, 0, (-2147483648), 2147483647)], [(39, 4, 14), (40, 0, 40), (41, 0, 8), (42, 0, 3)], (0, 0, 0))
theorem xsC16 : x_uok x_B xuC16 := x_chk_ok (n := 20000) (ks := [(58, [(52, [(2, 0, 3)], [], [(39, 4, 14)], [], 0, true)], [], [], []), (53, [(8, [(4, 0, 8)], [], [], [], 0, true)], [], [(8, [5])], [])]) xoC16 (by decide +kernel)
def xtC17 : List xU := xuC16 :: xtC16
theorem xoC17 : ∀ u ∈ xtC17, x_uok x_B u := x_tab xsC16 xoC16
/-- WashAndDry$Evening.endIfMay -/
def xuC17 : xU := (54, 4, [(0, 39, 0, 0), (0, 4, 0, 0), (0, 6, 0, 0)], [(39, 4, 14), (40, 0, 40), (41, 0, 8), (42, 0, 3)], (1, (-2147483648), 2147483647))
theorem xsC17 : x_uok x_B xuC17 := x_chk_ok (n := 20000) (ks := []) xoC17 (by decide +kernel)
def xtC18 : List xU := xuC17 :: xtC17
theorem xoC18 : ∀ u ∈ xtC18, x_uok x_B u := x_tab xsC17 xoC17
/-- WashAndDry$Evening.endIfMay -/
def xuC18 : xU := (54, 4, [(0, 39, 0, 0), (0, 45, 0, 0), (0, 6, 0, 0)], [(39, 4, 14), (40, 0, 40), (41, 0, 8), (42, 0, 3)], (1, (-2147483648), 2147483647))
theorem xsC18 : x_uok x_B xuC18 := x_chk_ok (n := 20000) (ks := []) xoC18 (by decide +kernel)
def xtC19 : List xU := xuC18 :: xtC18
theorem xoC19 : ∀ u ∈ xtC19, x_uok x_B u := x_tab xsC18 xoC18
/-- WashAndDry$Evening.endIfMay -/
def xuC19 : xU := (54, 4, [(0, 39, 0, 0), (0, 50, 0, 0), (0, 6, 0, 0)], [(39, 4, 14), (40, 0, 40), (41, 0, 8), (42, 0, 3)], (1, (-2147483648), 2147483647))
theorem xsC19 : x_uok x_B xuC19 := x_chk_ok (n := 20000) (ks := []) xoC19 (by decide +kernel)
def xtC20 : List xU := xuC19 :: xtC19
theorem xoC20 : ∀ u ∈ xtC20, x_uok x_B u := x_tab xsC19 xoC19
/-- WashAndDry$Evening.wetAt -/
def xuC20 : xU := (56, 1, [(0, 39, 0, 0), (1, 0, (-2147483648), 2147483647)], [], (1, (-2147483648), 2147483647))
theorem xsC20 : x_uok x_B xuC20 := x_chk_ok (n := 20000) (ks := [(56, [(4, [(2, (-2147483648), 2147483647), (3, 0, 2147483647)], [], [], [], 1, true)], [], [], [])]) xoC20 (by decide +kernel)
def xtC21 : List xU := xuC20 :: xtC20
theorem xoC21 : ∀ u ∈ xtC21, x_uok x_B u := x_tab xsC20 xoC20
/-- WashAndDry$Evening.awayBy -/
def xuC21 : xU := (57, 1, [(0, 39, 0, 0), (0, 59, 0, 0)], [], (1, (-2147483648), 2147483647))
theorem xsC21 : x_uok x_B xuC21 := x_chk_ok (n := 20000) (ks := [(57, [(4, [(2, (-2147483648), 2147483647), (3, 0, 2147483647)], [], [], [], 1, true)], [], [], [])]) xoC21 (by decide +kernel)
def xtC22 : List xU := xuC21 :: xtC21
theorem xoC22 : ∀ u ∈ xtC22, x_uok x_B u := x_tab xsC21 xoC21
/-- WashAndDry$Order.digits -/
def xuC22 : xU := (96, 1, [(0, 50, 0, 0)], [], (1, (-2147483648), 2147483647))
theorem xsC22 : x_uok x_B xuC22 := x_chk_ok (n := 20000) (ks := [(96, [(9, [(1, (-2147483648), 2147483647), (2, (-1), 7)], [], [(50, 1, 2)], [], 1, false)], [], [], [])]) xoC22 (by decide +kernel)
def xtC23 : List xU := xuC22 :: xtC22
theorem xoC23 : ∀ u ∈ xtC23, x_uok x_B u := x_tab xsC22 xoC22
/-- WashAndDry$Order.digits -/
def xuC23 : xU := (96, 1, [(0, 55, 0, 0)], [], (1, (-2147483648), 2147483647))
theorem xsC23 : x_uok x_B xuC23 := x_chk_ok (n := 20000) (ks := [(96, [(9, [(1, (-2147483648), 2147483647), (2, (-1), 7)], [], [(55, 1, 2)], [], 1, false)], [], [], [])]) xoC23 (by decide +kernel)
def xtC24 : List xU := xuC23 :: xtC23
theorem xoC24 : ∀ u ∈ xtC24, x_uok x_B u := x_tab xsC23 xoC23
/-- WashAndDry$Order.exchange -/
def xuC24 : xU := (102, 1, [(0, 50, 0, 0), (1, 0, (-2147483648), 2147483647), (1, 0, (-2147483648), 2147483647)], [(51, 0, 8)], (0, 0, 0))
theorem xsC24 : x_uok x_B xuC24 := x_chk_ok (n := 20000) (ks := []) xoC24 (by decide +kernel)
def xtC25 : List xU := xuC24 :: xtC24
theorem xoC25 : ∀ u ∈ xtC25, x_uok x_B u := x_tab xsC24 xoC24
/-- WashAndDry$Order.append -/
def xuC25 : xU := (99, 1, [(0, 50, 0, 0), (1, 0, (-2147483648), 2147483647)], [(50, 1, 2), (51, 0, 8)], (0, 0, 0))
theorem xsC25 : x_uok x_B xuC25 := x_chk_ok (n := 20000) (ks := []) xoC25 (by decide +kernel)
def xtC26 : List xU := xuC25 :: xtC25
theorem xoC26 : ∀ u ∈ xtC26, x_uok x_B u := x_tab xsC25 xoC25
/-- WashAndDry$Order.exchange -/
def xuC26 : xU := (102, 1, [(0, 55, 0, 0), (1, 0, (-2147483648), 2147483647), (1, 0, (-2147483648), 2147483647)], [(56, 0, 8)], (0, 0, 0))
theorem xsC26 : x_uok x_B xuC26 := x_chk_ok (n := 20000) (ks := []) xoC26 (by decide +kernel)
def xtC27 : List xU := xuC26 :: xtC26
theorem xoC27 : ∀ u ∈ xtC27, x_uok x_B u := x_tab xsC26 xoC26
/-- WashAndDry$Order.append -/
def xuC27 : xU := (99, 1, [(0, 55, 0, 0), (1, 0, (-2147483648), 2147483647)], [(55, 1, 2), (56, 0, 8)], (0, 0, 0))
theorem xsC27 : x_uok x_B xuC27 := x_chk_ok (n := 20000) (ks := []) xoC27 (by decide +kernel)
def xtC28 : List xU := xuC27 :: xtC27
theorem xoC28 : ∀ u ∈ xtC28, x_uok x_B u := x_tab xsC27 xoC27
/-- WashAndDry$Order.exchange -/
def xuC28 : xU := (102, 1, [(0, 45, 0, 0), (1, 0, (-2147483648), 2147483647), (1, 0, (-2147483648), 2147483647)], [(46, 0, 8)], (0, 0, 0))
theorem xsC28 : x_uok x_B xuC28 := x_chk_ok (n := 20000) (ks := []) xoC28 (by decide +kernel)
def xtC29 : List xU := xuC28 :: xtC28
theorem xoC29 : ∀ u ∈ xtC29, x_uok x_B u := x_tab xsC28 xoC28
/-- WashAndDry$Order.append -/
def xuC29 : xU := (99, 1, [(0, 45, 0, 0), (1, 0, (-2147483648), 2147483647)], [(45, 1, 2), (46, 0, 8)], (0, 0, 0))
theorem xsC29 : x_uok x_B xuC29 := x_chk_ok (n := 20000) (ks := []) xoC29 (by decide +kernel)
def xtC30 : List xU := xuC29 :: xtC29
theorem xoC30 : ∀ u ∈ xtC30, x_uok x_B u := x_tab xsC29 xoC29
/-- WashAndDry$Order.becomeNext -/
def xuC30 : xU := (107, 2, [(0, 50, 0, 0)], [(51, 0, 8)], (1, 0, 1))
theorem xsC30 : x_uok x_B xuC30 := x_chk_ok (n := 20000) (ks := [(107, [(7, [(1, (-2), 6)], [], [(50, 1, 2)], [], 0, false), (45, [(2, (-1), 7)], [], [(50, 1, 2)], [], 0, false), (87, [(3, 1, 7), (4, (-1), 7)], [], [(50, 1, 2)], [], 1, false)], [], [], [])]) xoC30 (by decide +kernel)
def xtC31 : List xU := xuC30 :: xtC30
theorem xoC31 : ∀ u ∈ xtC31, x_uok x_B u := x_tab xsC30 xoC30
/-- WashAndDry$Hands.endOfTwo -/
def xuC31 : xU := (66, 3, [(0, 53, 0, 0), (0, 4, 0, 0), (1, 0, (-2147483648), 2147483647), (1, 0, (-2147483648), 2147483647), (1, 0, (-2147483648), 2147483647)], [], (1, (-2147483648), 2147483647))
theorem xsC31 : x_uok x_B xuC31 := x_chk_ok (n := 20000) (ks := [(66, [(9, [(5, (-2147483648), 2147483647), (6, (-2147483648), 2147483647), (7, 0, 8)], [], [], [], 2, true)], [], [(9, [8, 9])], [])]) xoC31 (by decide +kernel)
def xtC32 : List xU := xuC31 :: xtC31
theorem xoC32 : ∀ u ∈ xtC32, x_uok x_B u := x_tab xsC31 xoC31
/-- WashAndDry$Hands.endOfTwo -/
def xuC32 : xU := (66, 3, [(0, 53, 0, 0), (0, 55, 0, 0), (1, 0, (-2147483648), 2147483647), (1, 0, (-2147483648), 2147483647), (1, 0, (-2147483648), 2147483647)], [], (1, (-2147483648), 2147483647))
theorem xsC32 : x_uok x_B xuC32 := x_chk_ok (n := 20000) (ks := [(66, [(9, [(5, (-2147483648), 2147483647), (6, (-2147483648), 2147483647), (7, 0, 8)], [], [], [], 2, true)], [], [(9, [8, 9])], [])]) xoC32 (by decide +kernel)
def xtC33 : List xU := xuC32 :: xtC32
theorem xoC33 : ∀ u ∈ xtC33, x_uok x_B u := x_tab xsC32 xoC32
/-- WashAndDry$Hands.endOfThree -/
def xuC33 : xU := (70, 3, [(0, 53, 0, 0)], [], (1, 0, 2147483647))
theorem xsC33 : x_uok x_B xuC33 := x_chk_ok (n := 20000) (ks := [(70, [(12, [(1, (-2147483648), 2147483647), (2, 0, 2147483647), (3, (-2147483648), 2147483647), (4, 0, 2147483647), (5, 0, 8)], [], [], [], 4, true)], [], [(12, [6, 7])], [])]) xoC33 (by decide +kernel)
def xtC34 : List xU := xuC33 :: xtC33
theorem xoC34 : ∀ u ∈ xtC34, x_uok x_B u := x_tab xsC33 xoC33
/-- WashAndDry$Tries.endWith -/
def xuC34 : xU := (131, 4, [(0, 43, 0, 0), (1, 0, (-2147483648), 2147483647), (1, 0, (-2147483648), 2147483647)], [(39, 4, 14), (40, 0, 40), (41, 0, 8), (42, 0, 3), (47, 0, 5)], (1, (-2147483648), 2147483647))
theorem xsC34 : x_uok x_B xuC34 := x_chk_ok (n := 20000) (ks := [(112, [(2, [(3, 0, 7)], [], [], [], 0, true)], [], [], [])]) xoC34 (by decide +kernel)
def xtC35 : List xU := xuC34 :: xtC34
theorem xoC35 : ∀ u ∈ xtC35, x_uok x_B u := x_tab xsC34 xoC34
/-- WashAndDry$Turns.ruleKey -/
def xuC35 : xU := (138, 3, [(0, 48, 0, 0), (1, 0, (-2147483648), 2147483647), (1, 0, (-2147483648), 2147483647)], [], (1, (-2147483648), 2147483647))
theorem xsC35 : x_uok x_B xuC35 := x_chk_ok (n := 20000) (ks := []) xoC35 (by decide +kernel)
def xtC36 : List xU := xuC35 :: xtC35
theorem xoC36 : ∀ u ∈ xtC36, x_uok x_B u := x_tab xsC35 xoC35
/-- WashAndDry$Turns.followRule -/
def xuC36 : xU := (134, 4, [(0, 48, 0, 0), (1, 0, (-2147483648), 2147483647)], [(50, 1, 3), (51, 0, 8), (52, 0, 8)], (0, 0, 0))
theorem xsC36 : x_uok x_B xuC36 := x_chk_ok (n := 20000) (ks := [(134, [(2, [(2, 0, 8)], [], [], [], 0, true)], [], [], []), (106, [(6, [(2, 0, 8)], [], [(2, 1, 2), (50, 2, 3)], [], 0, true)], [], [], []), (108, [(7, [(3, 1, 8)], [], [(2, 1, 2), (50, 2, 3)], [], 0, true), (18, [(4, 0, 7)], [], [(2, 1, 2), (50, 1, 3)], [], 0, false)], [], [(7, [4])], [])]) xoC36 (by decide +kernel)
def xtC37 : List xU := xuC36 :: xtC36
theorem xoC37 : ∀ u ∈ xtC37, x_uok x_B u := x_tab xsC36 xoC36
/-- WashAndDry$Turns.drawOrder -/
def xuC37 : xU := (139, 2, [(0, 48, 0, 0)], [(48, 7, 8), (50, 1, 3), (51, 0, 8)], (0, 0, 0))
theorem xsC37 : x_uok x_B xuC37 := x_chk_ok (n := 20000) (ks := [(139, [(29, [(1, 0, 255), (2, 0, 8)], [], [(2, 1, 2), (50, 2, 3)], [], 1, false)], [], [(29, [3])], []), (141, [(5, [(3, (-2147483648), 2147483647), (4, 0, 8)], [], [(2, 1, 2), (48, 7, 8), (50, 2, 3)], [], 1, true)], [], [], [])]) xoC37 (by decide +kernel)
def xtC38 : List xU := xuC37 :: xtC37
theorem xoC38 : ∀ u ∈ xtC38, x_uok x_B u := x_tab xsC37 xoC37
/-- WashAndDry$Letters.behindStatement -/
def xuC38 : xU := (80, 3, [(0, 19, 0, 0), (1, 0, (-2147483648), 2147483647)], [], (1, (-2147483648), 2147483647))
theorem xsC38 : x_uok x_B xuC38 := x_chk_ok (n := 20000) (ks := [(80, [(76, [(4, 1, 96), (5, 0, 8)], [], [(19, 1, 2)], [], 0, true)], [], [], [])]) xoC38 (by decide +kernel)
def xtC39 : List xU := xuC38 :: xtC38
theorem xoC39 : ∀ u ∈ xtC39, x_uok x_B u := x_tab xsC38 xoC38
/-- WashAndDry$Letters.number -/
def xuC39 : xU := (88, 2, [(0, 19, 0, 0), (1, 0, (-2147483648), 2147483647), (1, 0, (-2147483648), 2147483647)], [], (1, (-2147483648), 2147483647))
theorem xsC39 : x_uok x_B xuC39 := x_chk_ok (n := 20000) (ks := [(88, [(5, [(3, (-2147483648), 2147483647), (4, (-2147483648), 2147483647)], [], [], [], 1, true)], [], [], [])]) xoC39 (by decide +kernel)
def xtC40 : List xU := xuC39 :: xtC39
theorem xoC40 : ∀ u ∈ xtC40, x_uok x_B u := x_tab xsC39 xoC39
/-- WashAndDry$Letters.tellThing -/
def xuC40 : xU := (85, 3, [(0, 19, 0, 0), (0, 8, 0, 0), (1, 0, (-2147483648), 2147483647)], [(8, 1, 2), (9, 0, 48)], (1, 0, 1))
theorem xsC40 : x_uok x_B xuC40 := x_chk_ok (n := 20000) (ks := [(85, [(16, [(3, (-2147483648), 2147483647), (4, 0, 7)], [], [(8, 1, 2)], [], 1, true)], [], [(16, [5, 6])], [])]) xoC40 (by decide +kernel)
def xtC41 : List xU := xuC40 :: xtC40
theorem xoC41 : ∀ u ∈ xtC41, x_uok x_B u := x_tab xsC40 xoC40
/-- WashAndDry$Letters.tellOrder -/
def xuC41 : xU := (86, 3, [(0, 19, 0, 0), (0, 7, 0, 0), (1, 0, (-2147483648), 2147483647), (1, 0, (-2147483648), 2147483647)], [(10, 1, 3), (11, 0, 8)], (1, 0, 1))
theorem xsC41 : x_uok x_B xuC41 := x_chk_ok (n := 20000) (ks := [(86, [(10, [(4, (-2147483648), 2147483647)], [], [(10, 2, 3)], [], 0, true)], [], [(10, [5])], []), (93, [(2, [(2, 0, 8)], [], [(8, 1, 2), (10, 2, 3)], [], 0, true)], [], [], [])]) xoC41 (by decide +kernel)
def xtC42 : List xU := xuC41 :: xtC41
theorem xoC42 : ∀ u ∈ xtC42, x_uok x_B u := x_tab xsC41 xoC41
/-- WashAndDry$Order.thingAt -/
def xuC42 : xU := (91, 0, [(0, 4, 0, 0), (1, 0, (-2147483648), 2147483647)], [], (1, (-2147483648), 2147483647))
theorem xsC42 : x_uok x_B xuC42 := x_chk_ok (n := 20000) (ks := []) xoC42 (by decide +kernel)
def xtC43 : List xU := xuC42 :: xtC42
theorem xoC43 : ∀ u ∈ xtC43, x_uok x_B u := x_tab xsC42 xoC42
theorem aw_cm2 {w : aW} {fr : Nat} {cd : List aR} {pc q nx ax wp : Nat} {ins : Instr} {L st : List Value} {M : aM} {Q : Option Value → aM → Prop} {As st2 : List Value} {k : Nat} {P : Option Value → aM → Prop} {mt : aMt} (hf : a_find cd pc = some (q, ins, nx, ax, wp)) (hk : a_kind ins ax = k + 1) (h2 : k < 2) (hm : a_mth[ax]? = some mt) (hc : am w fr ax As M P) (ha : a_args (k + 1) mt st = some (As, st2))
    (kk : ∀ v M1, P v M1 → aw w (fr + 1) cd nx L (v.toList ++ st2) M1 Q) : aw w (fr + 1) cd pc L st M Q := by
  obtain ⟨mt2, hm2, hc⟩ := hc
  rw [hm] at hm2
  cases hm2
  exact aw_ck hf hk h2 hm ha hc kk
/-! counting -/
theorem h_sub : ∀ (l m : List Nat), l.Nodup → (∀ x ∈ l, x ∈ m) → l.length ≤ m.length
  | [], _, _, _ => Nat.zero_le _
  | a :: t, m, hn, hs => by
    have ha := hs a (List.mem_cons_self ..)
    have h1 := List.nodup_cons.mp hn
    have := h_sub t (m.erase a) h1.2 fun x hx => (List.mem_erase_of_ne (fun e => h1.1 (by rw [← e]; exact hx))).mpr (hs x (List.mem_cons_of_mem _ hx))
    rw [List.length_erase_of_mem ha] at this
    have hp : 0 < m.length := List.length_pos_of_mem ha
    simp only [List.length_cons]
    omega
theorem h_rng (n : Nat) : (List.range n).Nodup := List.nodup_range
/-- at most k bits are set -/
def h_pb (k : Nat) (b : Int32) : Prop := ∃ l : List Nat, l.length ≤ k ∧ ∀ j, j < 31 → b.toBitVec.getLsbD j = true → j ∈ l
theorem h_bit : ∀ s, s < 32 → ∀ j, j < 31 → ((1 : Int32) <<< Int32.ofNat s).toBitVec.getLsbD j = true → j = s := by decide +kernel
theorem h_pb_or {k : Nat} {b t : Int32} (h : h_pb k b) : h_pb (k + 1) (b ||| ((1 : Int32) <<< (t &&& 31))) := by
  obtain ⟨l, h1, h2⟩ := h
  have hb : 0 ≤ (t &&& 31).toInt ∧ (t &&& 31).toInt ≤ 31 := by
    have := @x_and_le 31 t (by decide)
    rw [Int32.and_comm] at this
    exact this
  have hs : t &&& 31 = Int32.ofNat (t &&& 31).toInt.toNat := Int32.toInt_inj.mp (by rw [Int32.toInt_ofNat_of_lt (by omega)]; omega)
  refine ⟨(t &&& 31).toInt.toNat :: l, by simp; omega, fun j hj hset => ?_⟩
  have e : (b ||| ((1 : Int32) <<< (t &&& 31))).toBitVec = b.toBitVec ||| ((1 : Int32) <<< (t &&& 31)).toBitVec := rfl
  rw [e, BitVec.getLsbD_or, Bool.or_eq_true] at hset
  rcases hset with q | q
  · exact List.mem_cons_of_mem _ (h2 j hj q)
  · rw [hs] at q
    have := h_bit _ (by omega) j hj q
    rw [this]
    exact List.mem_cons_self ..
theorem h_mxb : ∀ j, j < 31 → (2147483647 : Int32).toBitVec.getLsbD j = true := by decide +kernel
theorem h_pb_lt {k : Nat} {b : Int32} (h : h_pb k b) (hk : k ≤ 30) : b.toInt ≤ 2147483646 := by
  by_cases hb : b.toInt ≤ 2147483646
  · exact hb
  · have h1 := x_le_mx b
    rw [x_mx_e] at h1
    have e : b = 2147483647 := Int32.toInt_inj.mp (by show b.toInt = 2147483647; omega)
    subst e
    obtain ⟨l, l1, l2⟩ := h
    have := h_sub (List.range 31) l (h_rng 31) fun x hx => l2 x (List.mem_range.mp hx) (h_mxb x (List.mem_range.mp hx))
    rw [List.length_range] at this
    omega
theorem x_am0 {w : aW} {e id : Nat} {Vs : List Value} {M : aM} {P : Option Value → aM → Prop} (h : am w (0 + e) id Vs M P) : am w e id Vs M P := by
  rw [Nat.zero_add] at h
  exact h
theorem x_F0 {M M1 : aM} (h : x_F [] M M1) : M1 = M := by
  funext i k
  exact h i k rfl
theorem h_tb {Ln e : Nat} {xs : Nat → Int32} {M : aM} (hJ : x_J x_B M) {Q : Option Value → aM → Prop} (hQ : ∀ x : Int32, x.toInt ≤ 2147483646 → Q (some (.int x)) M) : ∀ (m : Nat) (b p : Int32), 0 ≤ p.toInt → p.toInt ≤ 8 → (8 - p.toInt).toNat = m → h_pb p.toInt.toNat b → aw (wA, Ln, xs) (e + 1) a_e95.2.1 4 [.ref 4, .int b, .int p] [] M Q := by
  intro m
  induction m with
  | zero =>
    intro b p h0 h1 hm hb
    have hs := hJ (4, 1, 2, 0, 8) (by decide +kernel) 1 (by decide) (by decide)
    simp only at hs
    refine aw_e rfl rfl rfl ?_
    refine aw_e rfl rfl rfl ?_
    refine aw_e rfl rfl rfl ?_
    refine aw_i2t rfl (decide_eq_true (by rw [Int32.le_iff_toInt_le]; exact (show (M 4 1).toInt ≤ p.toInt by omega))) ?_
    refine aw_e rfl rfl rfl ?_
    exact aw_ri rfl (Or.inl rfl) (hQ _ (h_pb_lt hb (by omega)))
  | succ m ih =>
    intro b p h0 h1 hm hb
    refine aw_e rfl rfl rfl ?_
    refine aw_e rfl rfl rfl ?_
    refine aw_e rfl rfl rfl ?_
    refine aw_i2 rfl (fun _ => ?_) (fun hlt => ?_)
    · refine aw_e rfl rfl rfl ?_
      exact aw_ri rfl (Or.inl rfl) (hQ _ (h_pb_lt hb (by omega)))
    · refine aw_e rfl rfl rfl ?_
      refine aw_e rfl rfl rfl ?_
      refine aw_e rfl rfl rfl ?_
      refine aw_e rfl rfl rfl ?_
      refine aw_cm2 (k := 0) rfl rfl (by decide) rfl (x_am0 (xsC42 Ln xs e M [.ref 4, .int p] hJ ⟨Or.inl ⟨rfl, rfl⟩, Or.inr ⟨by decide, p, rfl, x_mn_le p, x_le_mx p⟩, trivial⟩)) rfl (fun v M1 hu => ?_)
      obtain ⟨-, hF, hr⟩ := hu
      have hM := x_F0 hF
      subst hM
      rcases hr with ⟨hr, -⟩ | ⟨-, t, rfl, -, -⟩
      · cases hr
      · refine aw_e rfl rfl rfl ?_
        refine aw_e rfl rfl rfl ?_
        refine aw_e rfl rfl rfl ?_
        refine aw_e rfl rfl rfl ?_
        refine aw_e rfl rfl rfl ?_
        have ep : (p + Int32.ofInt 1).toInt = p.toInt + 1 := by
          rw [Int32.toInt_add]
          have : (Int32.ofInt 1).toInt = 1 := by decide
          rw [this]
          exact x_bm (by rw [x_mn_e]; omega) (by rw [x_mx_e]; omega)
        refine ih _ (p + Int32.ofInt 1) (by omega) (by omega) (by omega) ?_
        rw [ep, show (p.toInt + 1).toNat = p.toInt.toNat + 1 by omega]
        exact h_pb_or hb
theorem h_thingBits : x_uok x_B (95, 1, [(0, 4, 0, 0)], [], (1, -2147483648, 2147483646)) := by
  intro Ln xs e M Vs hJ hv
  match Vs, hv with
  | [v], hv =>
    rcases hv.1 with ⟨-, rfl⟩ | ⟨h, -⟩
    · refine ⟨a_e95, rfl, ?_⟩
      rw [Nat.add_comm]
      refine aw_e rfl rfl rfl ?_
      refine aw_e rfl rfl rfl ?_
      refine aw_e rfl rfl rfl ?_
      refine aw_e rfl rfl rfl ?_
      refine h_tb hJ (fun x hx => ⟨hJ, fun _ _ _ => rfl, Or.inr ⟨by decide, x, rfl, x_mn_le x, hx⟩⟩) 8 _ _ (by decide) (by decide) (by decide) ⟨[], by decide, fun j hj h => ?_⟩
      have : ∀ j, j < 31 → (Int32.ofInt 0).toBitVec.getLsbD j = false := by decide +kernel
      rw [this j hj] at h
      cases h
    · exact absurd rfl h

/-- WashAndDry$Order.thingBits -/
def xuC43 : xU := (95, 1, [(0, 4, 0, 0)], [], (1, (-2147483648), 2147483646))
theorem xsC43 : x_uok x_B xuC43 := h_thingBits
def xtC44 : List xU := xuC43 :: xtC43
theorem xoC44 : ∀ u ∈ xtC44, x_uok x_B u := x_tab xsC43 xoC43
/-- WashAndDry.alone -/
def xuC44 : xU := (34, 8, [(0, 0, 0, 0), (1, 0, (-2147483648), 2147483647)], [(54, 0, 2), (60, 2, 4)], (1, (-2147483648), 2147483647))
theorem xsC44 : x_uok x_B xuC44 := x_chk_ok (n := 20000) (ks := [(74, [(4, [(2, (-2147483648), 2147483647), (3, 0, 8)], [], [(2, 1, 2), (54, 0, 2)], [], 1, true)], [], [], []), (69, [(23, [(2, 1, 288)], [], [(2, 1, 2)], [], 0, true)], [], [(23, [3])], [])]) xoC44 (by decide +kernel)
def xtC45 : List xU := xuC44 :: xtC44
theorem xoC45 : ∀ u ∈ xtC45, x_uok x_B u := x_tab xsC44 xoC44
/-- WashAndDry.best -/
def xuC45 : xU := (30, 8, [(0, 0, 0, 0)], [(39, 4, 14), (40, 0, 40), (41, 0, 8), (42, 0, 3), (49, 0, 2), (50, 1, 3), (51, 0, 8), (52, 0, 8)], (1, (-2147483648), 2147483647))
theorem xsC45 : x_uok x_B xuC45 := x_chk_ok (n := 20000) (ks := [(135, [(11, [(1, 0, 7)], [], [], [], 0, true)], [], [], [])]) xoC45 (by decide +kernel)
def xtC46 : List xU := xuC45 :: xtC45
theorem xoC46 : ∀ u ∈ xtC46, x_uok x_B u := x_tab xsC45 xoC45
/-- WashAndDry.changed -/
def xuC46 : xU := (21, 8, [(0, 0, 0, 0)], [(39, 4, 14), (40, 0, 40), (41, 0, 8), (42, 0, 3), (44, 0, 2), (45, 1, 3), (46, 0, 8), (60, 3, 4)], (1, (-2147483648), 2147483647))
theorem xsC46 : x_uok x_B xuC46 := x_chk_ok (n := 20000) (ks := [(127, [(38, [(1, 0, 8)], [], [], [], 0, true), (56, [(2, 1, 8)], [], [(4, 1, 2)], [], 0, true)], [], [(38, [2])], []), (112, [(2, [(3, 0, 8)], [], [(4, 1, 3), (45, 1, 3)], [], 0, true)], [], [], [])]) xoC46 (by decide +kernel)
def xtC47 : List xU := xuC46 :: xtC46
theorem xoC47 : ∀ u ∈ xtC47, x_uok x_B u := x_tab xsC46 xoC46
/-- WashAndDry.clear -/
def xuC47 : xU := (9, 8, [(0, 0, 0, 0)], [(4, 1, 3), (21, 1, 3), (23, 1, 3), (24, 0, 8), (25, 1, 3), (26, 0, 8), (27, 1, 3), (28, 0, 8), (29, 1, 3), (30, 0, 8), (31, 1, 3), (32, 0, 8), (33, 1, 3), (34, 0, 8), (35, 1, 3), (36, 0, 8), (37, 1, 3), (38, 0, 8)], (1, 0, 8))
theorem xsC47 : x_uok x_B xuC47 := x_chk_ok (n := 20000) (ks := [(112, [(2, [(3, 0, 8)], [], [(4, 1, 3), (21, 1, 2), (23, 1, 3), (25, 1, 3), (27, 1, 3), (29, 1, 3), (31, 1, 3), (33, 1, 3), (35, 1, 3), (37, 1, 3)], [], 0, true)], [], [], [])]) xoC47 (by decide +kernel)
def xtC48 : List xU := xuC47 :: xtC47
theorem xoC48 : ∀ u ∈ xtC48, x_uok x_B u := x_tab xsC47 xoC47
/-- WashAndDry.cloths -/
def xuC48 : xU := (20, 8, [(0, 0, 0, 0)], [(39, 4, 14), (40, 0, 40), (41, 0, 8), (42, 0, 3), (47, 0, 5)], (1, 1, 3))
theorem xsC48 : x_uok x_B xuC48 := x_chk_ok (n := 20000) (ks := [(124, [(21, [(3, 1, 3)], [], [(6, 0, 1)], [], 0, true)], [], [], [])]) xoC48 (by decide +kernel)
def xtC49 : List xU := xuC48 :: xtC48
theorem xoC49 : ∀ u ∈ xtC49, x_uok x_B u := x_tab xsC48 xoC48
/-- WashAndDry.count -/
def xuC49 : xU := (43, 8, [(0, 0, 0, 0), (1, 0, (-2147483648), 2147483647)], [], (1, (-2147483648), 2147483647))
theorem xsC49 : x_uok x_B xuC49 := x_chk_ok (n := 20000) (ks := [(116, [(4, [(2, (-2147483648), 2147483647), (3, 0, 8)], [], [], [], 1, true)], [], [], [])]) xoC49 (by decide +kernel)
def xtC50 : List xU := xuC49 :: xtC49
theorem xoC50 : ∀ u ∈ xtC50, x_uok x_B u := x_tab xsC49 xoC49
/-- WashAndDry.dear -/
def xuC50 : xU := (25, 8, [(0, 0, 0, 0), (1, 0, (-2147483648), 2147483647), (1, 0, (-2147483648), 2147483647), (1, 0, (-2147483648), 2147483647)], [(39, 4, 14), (40, 0, 40), (41, 0, 8), (42, 0, 3), (44, 0, 2), (47, 0, 5), (60, 4, 5), (60, 6, 7)], (1, (-2147483648), 2147483647))
theorem xsC50 : x_uok x_B xuC50 := x_chk_ok (n := 20000) (ks := [(125, [(12, [(4, 0, 96)], [], [], [], 0, true), (22, [(5, 1, 4)], [], [], [], 0, true)], [], [(12, [5])], [])]) xoC50 (by decide +kernel)
def xtC51 : List xU := xuC50 :: xtC50
theorem xoC51 : ∀ u ∈ xtC51, x_uok x_B u := x_tab xsC50 xoC50
/-- WashAndDry.drop -/
def xuC51 : xU := (39, 8, [(0, 0, 0, 0)], [(0, 11, 12)], (1, 0, 12))
theorem xsC51 : x_uok x_B xuC51 := x_chk_ok (n := 20000) (ks := []) xoC51 (by decide +kernel)
def xtC52 : List xU := xuC51 :: xtC51
theorem xoC52 : ∀ u ∈ xtC52, x_uok x_B u := x_tab xsC51 xoC51
/-- WashAndDry.either -/
def xuC52 : xU := (33, 8, [(0, 0, 0, 0)], [], (1, 0, 2147483647))
theorem xsC52 : x_uok x_B xuC52 := x_chk_ok (n := 20000) (ks := [(68, [(6, [(1, (-2147483648), 2147483647), (2, 0, 2147483647), (3, 0, 8)], [], [], [], 2, true)], [], [(6, [4])], [])]) xoC52 (by decide +kernel)
def xtC53 : List xU := xuC52 :: xtC52
theorem xoC53 : ∀ u ∈ xtC53, x_uok x_B u := x_tab xsC52 xoC52
/-- WashAndDry.feed -/
def xuC53 : xU := (0, 8, [(0, 0, 0, 0), (1, 0, (-2147483648), 2147483647)], [(19, 1, 2), (20, 0, 96), (60, 4, 5), (60, 6, 7)], (1, (-6), 96))
theorem xsC53 : x_uok x_B xuC53 := x_chk_ok (n := 20000) (ks := []) xoC53 (by decide +kernel)
def xtC54 : List xU := xuC53 :: xtC53
theorem xoC54 : ∀ u ∈ xtC54, x_uok x_B u := x_tab xsC53 xoC53
/-- WashAndDry.fits -/
def xuC54 : xU := (27, 8, [(0, 0, 0, 0), (1, 0, (-2147483648), 2147483647), (1, 0, (-2147483648), 2147483647), (1, 0, (-2147483648), 2147483647)], [(39, 4, 14), (40, 0, 40), (41, 0, 8), (42, 0, 3), (48, 5, 7), (50, 1, 3), (51, 0, 8), (60, 2, 5), (60, 6, 7)], (1, (-2147483648), 2147483647))
theorem xsC54 : x_uok x_B xuC54 := x_chk_ok (n := 20000) (ks := [(106, [(6, [(2, 0, 7)], [], [(2, 1, 2), (48, 5, 7), (50, 2, 3)], [], 0, true)], [], [], []), (133, [(33, [(3, 0, 1), (4, 0, 2147483647)], [], [(2, 1, 2), (50, 2, 3)], [], 1, true)], [], [(33, [5])], [])]) xoC54 (by decide +kernel)
def xtC55 : List xU := xuC54 :: xtC54
theorem xoC55 : ∀ u ∈ xtC55, x_uok x_B u := x_tab xsC54 xoC54
/-- WashAndDry.fresh -/
def xuC55 : xU := (7, 8, [(0, 0, 0, 0), (1, 0, (-2147483648), 2147483647)], [(4, 2, 3), (21, 1, 3), (23, 1, 3), (24, 0, 8), (25, 1, 3), (26, 0, 8), (27, 1, 3), (28, 0, 8), (29, 1, 3), (30, 0, 8), (31, 1, 3), (32, 0, 8), (33, 1, 3), (34, 0, 8), (35, 1, 3), (36, 0, 8), (37, 1, 3), (38, 0, 8), (60, 1, 2)], (1, (-1), 1))
theorem xsC55 : x_uok x_B xuC55 := x_chk_ok (n := 20000) (ks := [(112, [(2, [(3, 0, 8)], [], [(4, 1, 3), (21, 1, 2), (23, 1, 3), (25, 1, 3), (27, 1, 3), (29, 1, 3), (31, 1, 3), (33, 1, 3), (35, 1, 3), (37, 1, 3)], [], 0, true)], [], [], [])]) xoC55 (by decide +kernel)
def xtC56 : List xU := xuC55 :: xtC55
theorem xoC56 : ∀ u ∈ xtC56, x_uok x_B u := x_tab xsC55 xoC55
/-- WashAndDry.hands -/
def xuC56 : xU := (32, 8, [(0, 0, 0, 0), (1, 0, (-2147483648), 2147483647)], [(55, 1, 3), (56, 0, 8), (57, 0, 8), (60, 2, 3)], (1, (-2147483648), 2147483647))
theorem xsC56 : x_uok x_B xuC56 := x_chk_ok (n := 20000) (ks := [(65, [(2, [(1, 0, 8)], [], [], [], 0, true)], [], [(2, [2, 3])], []), (106, [(6, [(2, 0, 8)], [], [(2, 1, 2), (55, 2, 3)], [], 0, true)], [], [], []), (108, [(7, [(3, 1, 8)], [], [(2, 1, 2), (55, 2, 3)], [], 0, true), (18, [(4, 0, 7)], [], [(2, 1, 2), (55, 1, 3)], [], 0, false)], [], [(7, [4])], [])]) xoC56 (by decide +kernel)
def xtC57 : List xU := xuC56 :: xtC56
theorem xoC57 : ∀ u ∈ xtC57, x_uok x_B u := x_tab xsC56 xoC56
/-- WashAndDry.image -/
def xuC57 : xU := (41, 8, [(0, 0, 0, 0)], [(0, 3, 4), (14, 1, 2), (15, 0, 48), (16, 1, 3), (17, 0, 8), (18, 0, 5)], (1, 0, 8))
theorem xsC57 : x_uok x_B xuC57 := x_chk_ok (n := 20000) (ks := [(112, [(2, [(3, 0, 96)], [], [(2, 1, 2), (4, 1, 3), (14, 1, 2), (16, 1, 3)], [], 0, true)], [], [], [])]) xoC57 (by decide +kernel)
def xtC58 : List xU := xuC57 :: xtC57
theorem xoC58 : ∀ u ∈ xtC58, x_uok x_B u := x_tab xsC57 xoC57
/-- WashAndDry.judge -/
def xuC58 : xU := (16, 8, [(0, 0, 0, 0)], [(0, 11, 12), (39, 4, 14), (40, 0, 40), (41, 0, 8), (42, 0, 3)], (1, (-9), 12))
theorem xsC58 : x_uok x_B xuC58 := x_chk_ok (n := 20000) (ks := [(16, [(9, [(1, (-9), 12), (2, 0, 12)], [], [], [], 1, true)], [], [], [])]) xoC58 (by decide +kernel)
def xtC59 : List xU := xuC58 :: xtC58
theorem xoC59 : ∀ u ∈ xtC59, x_uok x_B u := x_tab xsC58 xoC58
/-- WashAndDry.kitchen -/
def xuC59 : xU := (1, 8, [(0, 0, 0, 0)], [(2, 1, 2), (3, 0, 48), (4, 1, 3), (5, 0, 8), (6, 0, 5), (8, 1, 2), (9, 0, 48), (10, 1, 3), (11, 0, 8), (12, 0, 5), (19, 1, 2), (21, 2, 3)], (1, (-2147483648), 2147483647))
theorem xsC59 : x_uok x_B xuC59 := x_chk_ok (n := 20000) (ks := [(112, [(2, [(3, 0, 96)], [], [(2, 1, 2), (4, 1, 3), (8, 1, 2), (10, 1, 3), (19, 1, 2)], [], 0, true)], [], [], []), (79, [(7, [(2, (-2147483648), 2147483647), (3, 0, 2147483647), (4, 0, 255)], [], [(2, 1, 2), (4, 1, 3), (8, 1, 2), (10, 1, 3)], [], 2, true), (52, [(3, (-2147483648), 2147483647), (4, 0, 2147483647)], [], [(2, 1, 2), (4, 1, 3), (19, 1, 2)], [], 1, true)], [], [(52, [5])], [])]) xoC59 (by decide +kernel)
def xtC60 : List xU := xuC59 :: xtC59
theorem xoC60 : ∀ u ∈ xtC60, x_uok x_B u := x_tab xsC59 xoC59
/-- WashAndDry.later -/
def xuC60 : xU := (24, 8, [(0, 0, 0, 0), (1, 0, (-2147483648), 2147483647)], [(39, 4, 14), (40, 0, 40), (41, 0, 8), (42, 0, 3), (44, 0, 2), (60, 2, 3)], (1, (-2147483648), 2147483647))
theorem xsC60 : x_uok x_B xuC60 := x_chk_ok (n := 20000) (ks := [(130, [(11, [(1, 0, 96)], [], [], [], 0, true)], [], [], [])]) xoC60 (by decide +kernel)
def xtC61 : List xU := xuC60 :: xtC60
theorem xoC61 : ∀ u ∈ xtC61, x_uok x_B u := x_tab xsC60 xoC60
/-- WashAndDry.may -/
def xuC61 : xU := (11, 8, [(0, 0, 0, 0)], [], (1, 0, 1))
theorem xsC61 : x_uok x_B xuC61 := x_chk_ok (n := 20000) (ks := []) xoC61 (by decide +kernel)
def xtC62 : List xU := xuC61 :: xtC61
theorem xoC62 : ∀ u ∈ xtC62, x_uok x_B u := x_tab xsC61 xoC61
/-- WashAndDry.over -/
def xuC62 : xU := (37, 8, [(0, 0, 0, 0), (1, 0, (-2147483648), 2147483647), (1, 0, (-2147483648), 2147483647), (1, 0, (-2147483648), 2147483647)], [(54, 0, 2), (60, 2, 3), (60, 4, 5), (60, 6, 7)], (1, (-2147483648), 2147483647))
theorem xsC62 : x_uok x_B xuC62 := x_chk_ok (n := 20000) (ks := [(67, [(24, [(3, 1, 8)], [], [], [], 0, true)], [], [], [])]) xoC62 (by decide +kernel)
def xtC63 : List xU := xuC62 :: xtC62
theorem xoC63 : ∀ u ∈ xtC63, x_uok x_B u := x_tab xsC62 xoC62
/-- WashAndDry.picked -/
def xuC63 : xU := (36, 8, [(0, 0, 0, 0), (1, 0, (-2147483648), 2147483647)], [(54, 0, 2), (58, 0, 256), (60, 2, 3)], (1, (-2147483648), 2147483647))
theorem xsC63 : x_uok x_B xuC63 := x_chk_ok (n := 20000) (ks := [(71, [(20, [(1, 1, 288)], [], [], [], 0, true), (42, [(2, 0, 8)], [], [(2, 1, 2)], [], 0, true)], [], [(20, [2, 3]), (42, [3])], [])]) xoC63 (by decide +kernel)
def xtC64 : List xU := xuC63 :: xtC63
theorem xoC64 : ∀ u ∈ xtC64, x_uok x_B u := x_tab xsC63 xoC63
/-- WashAndDry.place -/
def xuC64 : xU := (8, 8, [(0, 0, 0, 0), (1, 0, (-2147483648), 2147483647), (1, 0, (-2147483648), 2147483647)], [(60, 1, 3)], (1, (-2147483648), 2147483647))
theorem xsC64 : x_uok x_B xuC64 := x_chk_ok (n := 20000) (ks := []) xoC64 (by decide +kernel)
def xtC65 : List xU := xuC64 :: xtC64
theorem xoC65 : ∀ u ∈ xtC65, x_uok x_B u := x_tab xsC64 xoC64
/-- WashAndDry.put -/
def xuC65 : xU := (5, 8, [(0, 0, 0, 0), (1, 0, (-2147483648), 2147483647)], [(4, 1, 2), (5, 0, 8), (21, 1, 3), (23, 1, 3), (24, 0, 8), (25, 1, 3), (26, 0, 8), (27, 1, 3), (28, 0, 8), (29, 1, 3), (30, 0, 8), (31, 1, 3), (32, 0, 8), (33, 1, 3), (34, 0, 8), (35, 1, 3), (36, 0, 8), (37, 1, 3), (38, 0, 8), (60, 1, 2)], (1, (-1), 8))
theorem xsC65 : x_uok x_B xuC65 := x_chk_ok (n := 20000) (ks := [(93, [(2, [(2, 0, 8)], [], [(2, 1, 2)], [], 0, true)], [], [], []), (112, [(2, [(3, 0, 8)], [], [(2, 1, 2), (4, 1, 3), (21, 1, 2), (23, 1, 3), (25, 1, 3), (27, 1, 3), (29, 1, 3), (31, 1, 3), (33, 1, 3), (35, 1, 3), (37, 1, 3)], [], 0, true)], [], [], [])]) xoC65 (by decide +kernel)
def xtC66 : List xU := xuC65 :: xtC65
theorem xoC66 : ∀ u ∈ xtC66, x_uok x_B u := x_tab xsC65 xoC65
/-- WashAndDry.rack -/
def xuC66 : xU := (18, 8, [(0, 0, 0, 0), (1, 0, (-2147483648), 2147483647)], [(39, 4, 14), (40, 0, 40), (41, 0, 8), (42, 0, 3), (47, 0, 5), (60, 4, 5), (60, 6, 7)], (1, (-9), 12))
theorem xsC66 : x_uok x_B xuC66 := x_chk_ok (n := 20000) (ks := [(123, [(14, [(3, 0, 96)], [], [(6, 3, 4)], [], 0, true)], [], [], [])]) xoC66 (by decide +kernel)
def xtC67 : List xU := xuC66 :: xtC66
theorem xoC67 : ∀ u ∈ xtC67, x_uok x_B u := x_tab xsC66 xoC66
/-- WashAndDry.restore -/
def xuC67 : xU := (42, 8, [(0, 0, 0, 0)], [(2, 1, 2), (3, 0, 48), (4, 1, 3), (5, 0, 8), (6, 0, 5), (21, 2, 3), (60, 3, 4)], (1, (-3), 8))
theorem xsC67 : x_uok x_B xuC67 := x_chk_ok (n := 20000) (ks := [(112, [(2, [(3, 0, 96)], [], [(0, 3, 4), (2, 1, 2), (4, 1, 3), (14, 1, 2), (16, 1, 3)], [], 0, true)], [], [], [])]) xoC67 (by decide +kernel)
def xtC68 : List xU := xuC67 :: xtC67
theorem xoC68 : ∀ u ∈ xtC68, x_uok x_B u := x_tab xsC67 xoC67
/-- WashAndDry.row -/
def xuC68 : xU := (38, 8, [(0, 0, 0, 0), (1, 0, (-2147483648), 2147483647)], [(0, 11, 12), (59, 0, 12), (60, 4, 5), (60, 6, 7)], (1, (-6), 12))
theorem xsC68 : x_uok x_B xuC68 := x_chk_ok (n := 20000) (ks := []) xoC68 (by decide +kernel)
def xtC69 : List xU := xuC68 :: xtC68
theorem xoC69 : ∀ u ∈ xtC69, x_uok x_B u := x_tab xsC68 xoC68
/-- WashAndDry.rule -/
def xuC69 : xU := (29, 8, [(0, 0, 0, 0), (1, 0, (-2147483648), 2147483647), (1, 0, (-2147483648), 2147483647)], [(39, 4, 14), (40, 0, 40), (41, 0, 8), (42, 0, 3), (50, 1, 3), (51, 0, 8), (52, 0, 8), (60, 2, 3)], (1, (-2147483648), 2147483647))
theorem xsC69 : x_uok x_B xuC69 := x_chk_ok (n := 20000) (ks := []) xoC69 (by decide +kernel)
def xtC70 : List xU := xuC69 :: xtC69
theorem xoC70 : ∀ u ∈ xtC70, x_uok x_B u := x_tab xsC69 xoC69
/-- WashAndDry.seeds -/
def xuC70 : xU := (31, 8, [(0, 0, 0, 0), (1, 0, (-2147483648), 2147483647), (1, 0, (-2147483648), 2147483647), (1, 0, (-2147483648), 2147483647)], [(39, 4, 14), (40, 0, 40), (41, 0, 8), (42, 0, 3), (48, 7, 10), (50, 1, 3), (51, 0, 8), (60, 2, 5), (60, 6, 7)], (1, (-2147483648), 2147483647))
theorem xsC70 : x_uok x_B xuC70 := x_chk_ok (n := 20000) (ks := [(137, [(17, [(3, 0, 96)], [], [(2, 1, 2)], [], 0, true)], [], [(17, [4])], [])]) xoC70 (by decide +kernel)
def xtC71 : List xU := xuC70 :: xtC70
theorem xoC71 : ∀ u ∈ xtC71, x_uok x_B u := x_tab xsC70 xoC70
/-- WashAndDry.set -/
def xuC71 : xU := (4, 8, [(0, 0, 0, 0), (1, 0, (-2147483648), 2147483647), (1, 0, (-2147483648), 2147483647)], [(6, 0, 5), (60, 1, 2), (60, 4, 5), (60, 6, 7)], (1, (-2147483648), 2147483647))
theorem xsC71 : x_uok x_B xuC71 := x_chk_ok (n := 20000) (ks := []) xoC71 (by decide +kernel)
def xtC72 : List xU := xuC71 :: xtC71
theorem xoC72 : ∀ u ∈ xtC72, x_uok x_B u := x_tab xsC71 xoC71
/-- WashAndDry.soonest -/
def xuC72 : xU := (26, 8, [(0, 0, 0, 0), (1, 0, (-2147483648), 2147483647)], [(39, 4, 14), (40, 0, 40), (41, 0, 8), (42, 0, 3), (49, 0, 2), (50, 1, 3), (51, 0, 8), (60, 2, 4)], (1, (-2147483648), 2147483647))
theorem xsC72 : x_uok x_B xuC72 := x_chk_ok (n := 20000) (ks := [(106, [(6, [(2, 0, 7)], [], [(2, 1, 2), (49, 0, 2), (50, 2, 3)], [], 0, true)], [], [], []), (132, [(31, [(3, 0, 1), (4, 0, 2147483647)], [], [(2, 1, 2), (50, 2, 3)], [], 1, true)], [], [(31, [5])], [])]) xoC72 (by decide +kernel)
def xtC73 : List xU := xuC72 :: xtC72
theorem xoC73 : ∀ u ∈ xtC73, x_uok x_B u := x_tab xsC72 xoC72
/-- WashAndDry.steps -/
def xuC73 : xU := (28, 8, [(0, 0, 0, 0), (1, 0, (-2147483648), 2147483647)], [(39, 4, 14), (40, 0, 40), (41, 0, 8), (42, 0, 3), (49, 0, 2), (50, 1, 3), (51, 0, 8), (60, 2, 4)], (1, (-2147483648), 2147483647))
theorem xsC73 : x_uok x_B xuC73 := x_chk_ok (n := 20000) (ks := [(106, [(6, [(2, 0, 7)], [], [(0, 11, 12), (2, 1, 2), (49, 0, 2), (50, 2, 3)], [], 0, true)], [], [], []), (132, [(31, [(3, 0, 1), (4, 0, 2147483647)], [], [(0, 11, 12), (2, 1, 2), (50, 2, 3)], [], 1, true)], [], [(31, [5])], [])]) xoC73 (by decide +kernel)
def xtC74 : List xU := xuC73 :: xtC73
theorem xoC74 : ∀ u ∈ xtC74, x_uok x_B u := x_tab xsC73 xoC73
/-- WashAndDry.stopped -/
def xuC74 : xU := (17, 8, [(0, 0, 0, 0), (1, 0, (-2147483648), 2147483647), (1, 0, (-2147483648), 2147483647)], [(39, 4, 14), (40, 0, 40), (41, 0, 8), (42, 0, 3), (60, 2, 3), (60, 4, 5), (60, 6, 7)], (1, (-2147483648), 2147483647))
theorem xsC74 : x_uok x_B xuC74 := x_chk_ok (n := 20000) (ks := [(17, [(62, [(3, (-9), 999), (4, (-2147483648), 2147483647), (5, (-1), 999)], [], [(2, 1, 2)], [], 2, false)], [], [], [])]) xoC74 (by decide +kernel)
def xtC75 : List xU := xuC74 :: xtC74
theorem xoC75 : ∀ u ∈ xtC75, x_uok x_B u := x_tab xsC74 xoC74
/-- WashAndDry.take -/
def xuC75 : xU := (6, 8, [(0, 0, 0, 0)], [(4, 1, 3), (21, 1, 3), (23, 1, 3), (24, 0, 8), (25, 1, 3), (26, 0, 8), (27, 1, 3), (28, 0, 8), (29, 1, 3), (30, 0, 8), (31, 1, 3), (32, 0, 8), (33, 1, 3), (34, 0, 8), (35, 1, 3), (36, 0, 8), (37, 1, 3), (38, 0, 8), (60, 3, 4)], (1, (-3), 7))
theorem xsC75 : x_uok x_B xuC75 := x_chk_ok (n := 20000) (ks := [(112, [(2, [(3, 0, 8)], [], [(4, 1, 3), (21, 1, 2), (23, 1, 3), (25, 1, 3), (27, 1, 3), (29, 1, 3), (31, 1, 3), (33, 1, 3), (35, 1, 3), (37, 1, 3)], [], 0, true)], [], [], [])]) xoC75 (by decide +kernel)
def xtC76 : List xU := xuC75 :: xtC75
theorem xoC76 : ∀ u ∈ xtC76, x_uok x_B u := x_tab xsC75 xoC75
/-- WashAndDry.thing -/
def xuC76 : xU := (2, 8, [(0, 0, 0, 0), (1, 0, (-2147483648), 2147483647), (1, 0, (-2147483648), 2147483647)], [(60, 1, 3)], (1, (-2147483648), 2147483647))
theorem xsC76 : x_uok x_B xuC76 := x_chk_ok (n := 20000) (ks := [(93, [(2, [(2, 0, 8)], [], [(2, 1, 2)], [], 0, true)], [], [], [])]) xoC76 (by decide +kernel)
def xtC77 : List xU := xuC76 :: xtC76
theorem xoC77 : ∀ u ∈ xtC77, x_uok x_B u := x_tab xsC76 xoC76
/-- WashAndDry.third -/
def xuC77 : xU := (35, 8, [(0, 0, 0, 0)], [], (1, 0, 2147483647))
theorem xsC77 : x_uok x_B xuC77 := x_chk_ok (n := 20000) (ks := []) xoC77 (by decide +kernel)
def xtC78 : List xU := xuC77 :: xtC77
theorem xoC78 : ∀ u ∈ xtC78, x_uok x_B u := x_tab xsC77 xoC77
/-- WashAndDry.through -/
def xuC78 : xU := (13, 8, [(0, 0, 0, 0)], [(39, 4, 14), (40, 0, 40), (41, 0, 8), (42, 0, 3)], (1, (-2147483648), 2147483647))
theorem xsC78 : x_uok x_B xuC78 := x_chk_ok (n := 20000) (ks := []) xoC78 (by decide +kernel)
def xtC79 : List xU := xuC78 :: xtC78
theorem xoC79 : ∀ u ∈ xtC79, x_uok x_B u := x_tab xsC78 xoC78
/-- WashAndDry.tomorrow -/
def xuC79 : xU := (23, 8, [(0, 0, 0, 0), (1, 0, (-2147483648), 2147483647), (1, 0, (-2147483648), 2147483647)], [(39, 4, 14), (40, 0, 40), (41, 0, 8), (42, 0, 3), (44, 0, 2), (45, 1, 3), (46, 0, 8), (60, 2, 3), (60, 4, 5), (60, 6, 7)], (1, (-2147483648), 2147483647))
theorem xsC79 : x_uok x_B xuC79 := x_chk_ok (n := 20000) (ks := [(129, [(22, [(3, 0, 2147483647)], [], [], [], 0, true)], [], [], []), (104, [(6, [(3, 0, 8)], [], [], [], 0, true)], [], [(6, [4])], [])]) xoC79 (by decide +kernel)
def xtC80 : List xU := xuC79 :: xtC79
theorem xoC80 : ∀ u ∈ xtC80, x_uok x_B u := x_tab xsC79 xoC79
/-- WashAndDry.undo -/
def xuC80 : xU := (10, 8, [(0, 0, 0, 0)], [(4, 1, 3), (5, 0, 8), (21, 1, 3), (60, 3, 4)], (1, (-2147483648), 2147483646))
theorem xsC80 : x_uok x_B xuC80 := x_chk_ok (n := 20000) (ks := [(112, [(2, [(3, 0, 8)], [], [(4, 1, 3), (21, 1, 3), (23, 1, 3), (25, 1, 3), (27, 1, 3), (29, 1, 3), (31, 1, 3), (33, 1, 3), (35, 1, 3), (37, 1, 3)], [], 0, true)], [], [], [])]) xoC80 (by decide +kernel)
def xtC81 : List xU := xuC80 :: xtC80
theorem xoC81 : ∀ u ∈ xtC81, x_uok x_B u := x_tab xsC80 xoC80
/-- WashAndDry.waits -/
def xuC81 : xU := (14, 8, [(0, 0, 0, 0), (1, 0, (-2147483648), 2147483647)], [(39, 4, 14), (40, 0, 40), (41, 0, 8), (42, 0, 3), (60, 2, 3)], (1, (-2147483648), 2147483647))
theorem xsC81 : x_uok x_B xuC81 := x_chk_ok (n := 20000) (ks := []) xoC81 (by decide +kernel)
def xtC82 : List xU := xuC81 :: xtC81
theorem xoC82 : ∀ u ∈ xtC82, x_uok x_B u := x_tab xsC81 xoC81
/-- WashAndDry.washing -/
def xuC82 : xU := (3, 8, [(0, 0, 0, 0), (1, 0, (-2147483648), 2147483647), (1, 0, (-2147483648), 2147483647), (1, 0, (-2147483648), 2147483647)], [(60, 1, 2), (60, 4, 5), (60, 6, 7)], (1, (-6), 2147483647))
theorem xsC82 : x_uok x_B xuC82 := x_chk_ok (n := 20000) (ks := []) xoC82 (by decide +kernel)
def xtC83 : List xU := xuC82 :: xtC82
theorem xoC83 : ∀ u ∈ xtC83, x_uok x_B u := x_tab xsC82 xoC82
/-- WashAndDry.water -/
def xuC83 : xU := (19, 8, [(0, 0, 0, 0), (1, 0, (-2147483648), 2147483647)], [(39, 4, 14), (40, 0, 40), (41, 0, 8), (42, 0, 3), (44, 0, 2), (45, 1, 3), (46, 0, 8), (60, 2, 3)], (1, (-2147483648), 2147483647))
theorem xsC83 : x_uok x_B xuC83 := x_chk_ok (n := 20000) (ks := [(112, [(2, [(3, 0, 8)], [], [(4, 1, 3), (44, 0, 2), (45, 1, 3)], [], 0, true)], [], [], []), (126, [(25, [(1, 0, 288)], [], [(4, 1, 3), (45, 1, 2)], [], 0, true)], [], [], [])]) xoC83 (by decide +kernel)
def xtC84 : List xU := xuC83 :: xtC83
theorem xoC84 : ∀ u ∈ xtC84, x_uok x_B u := x_tab xsC83 xoC83
/-- WashAndDry.week -/
def xuC84 : xU := (40, 8, [(0, 0, 0, 0), (1, 0, (-2147483648), 2147483647)], [(54, 0, 2), (60, 2, 4)], (1, (-2147483648), 2147483647))
theorem xsC84 : x_uok x_B xuC84 := x_chk_ok (n := 20000) (ks := [(73, [(11, [(2, 1, 255)], [], [(0, 11, 12)], [], 0, true), (23, [(3, (-2147483648), 2147483647), (4, 0, 7)], [], [(0, 11, 12)], [], 1, true)], [], [(11, [3, 4, 5]), (23, [5])], [])]) xoC84 (by decide +kernel)
def xtC85 : List xU := xuC84 :: xtC84
theorem xoC85 : ∀ u ∈ xtC85, x_uok x_B u := x_tab xsC84 xoC84
/-- WashAndDry.wet -/
def xuC85 : xU := (15, 8, [(0, 0, 0, 0), (1, 0, (-2147483648), 2147483647)], [(39, 4, 14), (40, 0, 40), (41, 0, 8), (42, 0, 3), (60, 4, 5), (60, 6, 7)], (1, (-2147483648), 2147483647))
theorem xsC85 : x_uok x_B xuC85 := x_chk_ok (n := 20000) (ks := []) xoC85 (by decide +kernel)
def xtC86 : List xU := xuC85 :: xtC85
theorem xoC86 : ∀ u ∈ xtC86, x_uok x_B u := x_tab xsC85 xoC85
/-- WashAndDry.when -/
def xuC86 : xU := (12, 8, [(0, 0, 0, 0), (1, 0, (-2147483648), 2147483647), (1, 0, (-2147483648), 2147483647)], [(39, 4, 14), (40, 0, 40), (41, 0, 8), (42, 0, 3), (60, 1, 3)], (1, (-2147483648), 2147483647))
theorem xsC86 : x_uok x_B xuC86 := x_chk_ok (n := 20000) (ks := []) xoC86 (by decide +kernel)
def xtC87 : List xU := xuC86 :: xtC86
theorem xoC87 : ∀ u ∈ xtC87, x_uok x_B u := x_tab xsC86 xoC86
/-- WashAndDry.where -/
def xuC87 : xU := (22, 8, [(0, 0, 0, 0), (1, 0, (-2147483648), 2147483647)], [(39, 4, 14), (40, 0, 40), (41, 0, 8), (42, 0, 3), (44, 0, 2), (45, 1, 3), (46, 0, 8), (60, 1, 2)], (1, (-2147483648), 2147483647))
theorem xsC87 : x_uok x_B xuC87 := x_chk_ok (n := 20000) (ks := [(93, [(2, [(2, 0, 8)], [], [(2, 1, 2)], [], 0, true)], [], [], []), (128, [(11, [(2, 0, 12)], [], [(2, 1, 2), (4, 1, 2)], [], 0, true)], [], [], []), (103, [(7, [(4, 0, 8)], [], [(2, 1, 2), (4, 1, 2), (45, 2, 3)], [], 0, true), (37, [(4, 0, 8)], [], [(2, 1, 2), (4, 1, 2), (45, 2, 3)], [], 0, true)], [], [], [])]) xoC87 (by decide +kernel)
def xtC88 : List xU := xuC87 :: xtC87
theorem xoC88 : ∀ u ∈ xtC88, x_uok x_B u := x_tab xsC87 xoC87

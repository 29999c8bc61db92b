def xtM0 : List xU := []
theorem xoM0 : ∀ u ∈ xtM0, x_uok x_B u := fun u h => by cases h
/-- WashAndDryModel.washes -/
def xuM0 : xU := (177, 0, [(0, 61, 0, 0), (1, 0, 0, 7), (1, 0, (-2147483648), 2147483647), (1, 0, (-2147483648), 2147483647)], [], (1, (-2147483648), 2147483647))
theorem xsM0 : x_uok x_B xuM0 := x_chk_ok (n := 20000) (ks := []) xoM0 (by decide +kernel)
def xtM1 : List xU := xuM0 :: xtM0
theorem xoM1 : ∀ u ∈ xtM1, x_uok x_B u := x_tab xsM0 xoM0
/-- WashAndDryModel.drips -/
def xuM1 : xU := (175, 1, [(0, 61, 0, 0), (1, 0, 0, 7)], [], (1, 0, 1))
theorem xsM1 : x_uok x_B xuM1 := x_chk_ok (n := 20000) (ks := []) xoM1 (by decide +kernel)
def xtM2 : List xU := xuM1 :: xtM1
theorem xoM2 : ∀ u ∈ xtM2, x_uok x_B u := x_tab xsM1 xoM1
/-- WashAndDryModel.drying -/
def xuM2 : xU := (176, 0, [(0, 61, 0, 0), (1, 0, 0, 7)], [], (1, (-2147483648), 2147483647))
theorem xsM2 : x_uok x_B xuM2 := x_chk_ok (n := 20000) (ks := []) xoM2 (by decide +kernel)
def xtM3 : List xU := xuM2 :: xtM2
theorem xoM3 : ∀ u ∈ xtM3, x_uok x_B u := x_tab xsM2 xoM2
/-- WashAndDryModel.clean -/
def xuM3 : xU := (178, 1, [(0, 61, 0, 0), (1, 0, 0, 7)], [], (1, (-2147483648), 2147483647))
theorem xsM3 : x_uok x_B xuM3 := x_chk_ok (n := 20000) (ks := []) xoM3 (by decide +kernel)
def xtM4 : List xU := xuM3 :: xtM3
theorem xoM4 : ∀ u ∈ xtM4, x_uok x_B u := x_tab xsM3 xoM3
/-- WashAndDryModel.bothOf -/
def xuM4 : xU := (223, 2, [(0, 61, 0, 0), (1, 0, 0, 7)], [], (1, (-2147483648), 2147483647))
theorem xsM4 : x_uok x_B xuM4 := x_chk_ok (n := 20000) (ks := []) xoM4 (by decide +kernel)
def xtM5 : List xU := xuM4 :: xtM4
theorem xoM5 : ∀ u ∈ xtM5, x_uok x_B u := x_tab xsM4 xoM4
/-- WashAndDryModel.mayBe -/
def xuM5 : xU := (189, 1, [(0, 61, 0, 0)], [], (1, 0, 1))
theorem xsM5 : x_uok x_B xuM5 := x_chk_ok (n := 20000) (ks := [(189, [(4, [(1, (-2147483648), 2147483647), (2, 0, 8)], [], [], [], 1, true)], [], [], [])]) xoM5 (by decide +kernel)
def xtM6 : List xU := xuM5 :: xtM5
theorem xoM6 : ∀ u ∈ xtM6, x_uok x_B u := x_tab xsM5 xoM5
/-- WashAndDryModel.lying -/
def xuM6 : xU := (191, 0, [(0, 61, 0, 0), (1, 0, (-2147483648), 2147483647), (1, 0, 0, 8)], [], (1, (-2147483648), 2147483647))
theorem xsM6 : x_uok x_B xuM6 := x_chk_ok (n := 20000) (ks := [(191, [(5, [(3, (-2147483648), 2147483647), (4, 0, 8)], [], [], [], 1, true)], [], [], [])]) xoM6 (by decide +kernel)
def xtM7 : List xU := xuM6 :: xtM6
theorem xoM7 : ∀ u ∈ xtM7, x_uok x_B u := x_tab xsM6 xoM6
/-- WashAndDryModel.lying -/
def xuM7 : xU := (191, 0, [(0, 61, 0, 0), (1, 0, 2147483647, 2147483647), (1, 0, 0, 8)], [], (1, 0, 0))
theorem xsM7 : x_uok x_B xuM7 := x_chk_ok (n := 20000) (ks := [(191, [(5, [(3, 0, 0), (4, 0, 8)], [], [], [], 1, true)], [], [], [])]) xoM7 (by decide +kernel)
def xtM8 : List xU := xuM7 :: xtM7
theorem xoM8 : ∀ u ∈ xtM8, x_uok x_B u := x_tab xsM7 xoM7
/-- WashAndDryModel.takesNextCloth -/
def xuM8 : xU := (193, 0, [(0, 61, 0, 0)], [(61, 38, 39), (61, 40, 42), (86, 0, 3)], (0, 0, 0))
theorem xsM8 : x_uok x_B xuM8 := x_chk_ok (n := 20000) (ks := [(193, [(42, [(1, 1, 3)], [], [(61, 38, 40), (61, 41, 42), (63, 4, 5)], [], 0, true)], [], [], [])]) xoM8 (by decide +kernel)
def xtM9 : List xU := xuM8 :: xtM8
theorem xoM9 : ∀ u ∈ xtM9, x_uok x_B u := x_tab xsM8 xoM8
/-- WashAndDryModel.dries -/
def xuM9 : xU := (194, 1, [(0, 61, 0, 0), (1, 0, 0, 7), (1, 0, (-2147483648), 2147483647)], [(61, 37, 42), (84, 0, 8), (85, 0, 8), (86, 0, 3)], (0, 0, 0))
theorem xsM9 : x_uok x_B xuM9 := x_chk_ok (n := 20000) (ks := []) xoM9 (by decide +kernel)
def xtM10 : List xU := xuM9 :: xtM9
theorem xoM10 : ∀ u ∈ xtM10, x_uok x_B u := x_tab xsM9 xoM9
theorem x_cut8 {iv : xB} {id d j : Nat} {wr : xW} {res : Nat × Int × Int} (h0 : x_uok iv (id, d, [(0, j, 0, 0), (1, 0, 0, 0)], wr, res)) (h1 : x_uok iv (id, d, [(0, j, 0, 0), (1, 0, 1, 1)], wr, res)) (h2 : x_uok iv (id, d, [(0, j, 0, 0), (1, 0, 2, 2)], wr, res)) (h3 : x_uok iv (id, d, [(0, j, 0, 0), (1, 0, 3, 3)], wr, res)) (h4 : x_uok iv (id, d, [(0, j, 0, 0), (1, 0, 4, 4)], wr, res)) (h5 : x_uok iv (id, d, [(0, j, 0, 0), (1, 0, 5, 5)], wr, res)) (h6 : x_uok iv (id, d, [(0, j, 0, 0), (1, 0, 6, 6)], wr, res)) (h7 : x_uok iv (id, d, [(0, j, 0, 0), (1, 0, 7, 7)], wr, res)) : x_uok iv (id, d, [(0, j, 0, 0), (1, 0, 0, 7)], wr, res) := by
  intro Ln xs e M Vs hJ hv
  match Vs, hv with
  | [v, u], hv =>
    rcases hv.2.1 with ⟨h, -⟩ | ⟨h, x, rfl, x1, x2⟩
    · cases h
    · have x1 : 0 ≤ x.toInt := x1
      have x2 : x.toInt ≤ 7 := x2
      have key : ∀ c : Int, x.toInt = c → x_av [(0, j, 0, 0), (1, 0, c, c)] [v, .int x] := fun c hc => ⟨hv.1, Or.inr ⟨h, x, rfl, by simp only; omega, by simp only; omega⟩, trivial⟩
      rcases (show x.toInt = 0 ∨ x.toInt = 1 ∨ x.toInt = 2 ∨ x.toInt = 3 ∨ x.toInt = 4 ∨ x.toInt = 5 ∨ x.toInt = 6 ∨ x.toInt = 7 by omega) with q | q | q | q | q | q | q | q
      · exact h0 Ln xs e M _ hJ (key _ q)
      · exact h1 Ln xs e M _ hJ (key _ q)
      · exact h2 Ln xs e M _ hJ (key _ q)
      · exact h3 Ln xs e M _ hJ (key _ q)
      · exact h4 Ln xs e M _ hJ (key _ q)
      · exact h5 Ln xs e M _ hJ (key _ q)
      · exact h6 Ln xs e M _ hJ (key _ q)
      · exact h7 Ln xs e M _ hJ (key _ q)
theorem xsM10_0 : x_uok x_B (195, 2, [(0, 61, 0, 0), (1, 0, 0, 0)], [(61, 37, 42), (83, 0, 8), (84, 0, 8), (85, 0, 8), (86, 0, 3)], (0, 0, 0)) := x_chk_ok (n := 20000) (ks := [(192, [(7, [(2, (-2147483648), 2147483647)], [], [(63, 0, 1), (67, 0, 8), (70, 0, 1), (82, 0, 1)], [], 0, true)], [], [], [(7, 2, 2147483647)]), (195, [], [(7, 2)], [], [])]) xoM10 (by decide +kernel)
theorem xsM10_1 : x_uok x_B (195, 2, [(0, 61, 0, 0), (1, 0, 1, 1)], [(61, 37, 42), (83, 0, 8), (84, 0, 8), (85, 0, 8), (86, 0, 3)], (0, 0, 0)) := x_chk_ok (n := 20000) (ks := [(192, [(7, [(2, (-2147483648), 2147483647)], [], [(63, 0, 1), (67, 0, 8), (70, 1, 2), (82, 1, 2)], [], 0, true)], [], [], [(7, 2, 2147483647)]), (195, [], [(7, 2)], [], [])]) xoM10 (by decide +kernel)
theorem xsM10_2 : x_uok x_B (195, 2, [(0, 61, 0, 0), (1, 0, 2, 2)], [(61, 37, 42), (83, 0, 8), (84, 0, 8), (85, 0, 8), (86, 0, 3)], (0, 0, 0)) := x_chk_ok (n := 20000) (ks := [(192, [(7, [(2, (-2147483648), 2147483647)], [], [(63, 0, 1), (67, 0, 8), (70, 2, 3), (82, 2, 3)], [], 0, true)], [], [], [(7, 2, 2147483647)]), (195, [], [(7, 2)], [], [])]) xoM10 (by decide +kernel)
theorem xsM10_3 : x_uok x_B (195, 2, [(0, 61, 0, 0), (1, 0, 3, 3)], [(61, 37, 42), (83, 0, 8), (84, 0, 8), (85, 0, 8), (86, 0, 3)], (0, 0, 0)) := x_chk_ok (n := 20000) (ks := [(192, [(7, [(2, (-2147483648), 2147483647)], [], [(63, 0, 1), (67, 0, 8), (70, 3, 4), (82, 3, 4)], [], 0, true)], [], [], [(7, 2, 2147483647)]), (195, [], [(7, 2)], [], [])]) xoM10 (by decide +kernel)
theorem xsM10_4 : x_uok x_B (195, 2, [(0, 61, 0, 0), (1, 0, 4, 4)], [(61, 37, 42), (83, 0, 8), (84, 0, 8), (85, 0, 8), (86, 0, 3)], (0, 0, 0)) := x_chk_ok (n := 20000) (ks := [(192, [(7, [(2, (-2147483648), 2147483647)], [], [(63, 0, 1), (67, 0, 8), (70, 4, 5), (82, 4, 5)], [], 0, true)], [], [], [(7, 2, 2147483647)]), (195, [], [(7, 2)], [], [])]) xoM10 (by decide +kernel)
theorem xsM10_5 : x_uok x_B (195, 2, [(0, 61, 0, 0), (1, 0, 5, 5)], [(61, 37, 42), (83, 0, 8), (84, 0, 8), (85, 0, 8), (86, 0, 3)], (0, 0, 0)) := x_chk_ok (n := 20000) (ks := [(192, [(7, [(2, (-2147483648), 2147483647)], [], [(63, 0, 1), (67, 0, 8), (70, 5, 6), (82, 5, 6)], [], 0, true)], [], [], [(7, 2, 2147483647)]), (195, [], [(7, 2)], [], [])]) xoM10 (by decide +kernel)
theorem xsM10_6 : x_uok x_B (195, 2, [(0, 61, 0, 0), (1, 0, 6, 6)], [(61, 37, 42), (83, 0, 8), (84, 0, 8), (85, 0, 8), (86, 0, 3)], (0, 0, 0)) := x_chk_ok (n := 20000) (ks := [(192, [(7, [(2, (-2147483648), 2147483647)], [], [(63, 0, 1), (67, 0, 8), (70, 6, 7), (82, 6, 7)], [], 0, true)], [], [], [(7, 2, 2147483647)]), (195, [], [(7, 2)], [], [])]) xoM10 (by decide +kernel)
theorem xsM10_7 : x_uok x_B (195, 2, [(0, 61, 0, 0), (1, 0, 7, 7)], [(61, 37, 42), (83, 0, 8), (84, 0, 8), (85, 0, 8), (86, 0, 3)], (0, 0, 0)) := x_chk_ok (n := 20000) (ks := [(192, [(7, [(2, (-2147483648), 2147483647)], [], [(63, 0, 1), (67, 0, 8), (70, 7, 8), (82, 7, 8)], [], 0, true)], [], [], [(7, 2, 2147483647)]), (195, [], [(7, 2)], [], [])]) xoM10 (by decide +kernel)
/-- WashAndDryModel.setsDown -/
def xuM10 : xU := (195, 2, [(0, 61, 0, 0), (1, 0, 0, 7)], [(61, 37, 42), (83, 0, 8), (84, 0, 8), (85, 0, 8), (86, 0, 3)], (0, 0, 0))
theorem xsM10 : x_uok x_B xuM10 := x_cut8 xsM10_0 xsM10_1 xsM10_2 xsM10_3 xsM10_4 xsM10_5 xsM10_6 xsM10_7
def xtM11 : List xU := xuM10 :: xtM10
theorem xoM11 : ∀ u ∈ xtM11, x_uok x_B u := x_tab xsM10 xoM10
/-- WashAndDryModel.goesThrough -/
def xuM11 : xU := (196, 3, [(0, 61, 0, 0)], [(61, 35, 43), (81, 0, 8), (82, 0, 8), (83, 0, 8), (84, 0, 8), (85, 0, 8), (86, 0, 3)], (0, 0, 0))
theorem xsM11 : x_uok x_B xuM11 := x_chk_ok (n := 20000) (ks := [(196, [(50, [(2, 0, 3)], [], [(61, 35, 44)], [], 0, true), (70, [(1, (-2147483648), 2147483647), (2, 0, 8)], [], [(61, 43, 44)], [], 1, true)], [], [], [])]) xoM11 (by decide +kernel)
def xtM12 : List xU := xuM11 :: xtM11
theorem xoM12 : ∀ u ∈ xtM12, x_uok x_B u := x_tab xsM11 xoM11
/-- WashAndDryModel.throughNow -/
def xuM12 : xU := (197, 4, [(0, 61, 0, 0)], [(61, 35, 43), (81, 0, 8), (82, 0, 8), (83, 0, 8), (84, 0, 8), (85, 0, 8), (86, 0, 3)], (1, (-2147483648), 2147483647))
theorem xsM12 : x_uok x_B xuM12 := x_chk_ok (n := 20000) (ks := []) xoM12 (by decide +kernel)
def xtM13 : List xU := xuM12 :: xtM12
theorem xoM13 : ∀ u ∈ xtM13, x_uok x_B u := x_tab xsM12 xoM12
/-- WashAndDryModel.throughIfMay -/
def xuM13 : xU := (198, 5, [(0, 61, 0, 0)], [(61, 35, 43), (81, 0, 8), (82, 0, 8), (83, 0, 8), (84, 0, 8), (85, 0, 8), (86, 0, 3)], (1, (-2147483648), 2147483647))
theorem xsM13 : x_uok x_B xuM13 := x_chk_ok (n := 20000) (ks := []) xoM13 (by decide +kernel)
def xtM14 : List xU := xuM13 :: xtM13
theorem xoM14 : ∀ u ∈ xtM14, x_uok x_B u := x_tab xsM13 xoM13
/-- WashAndDryModel.wetAt -/
def xuM14 : xU := (202, 0, [(0, 61, 0, 0), (1, 0, (-2147483648), 2147483647)], [], (1, (-2147483648), 2147483647))
theorem xsM14 : x_uok x_B xuM14 := x_chk_ok (n := 20000) (ks := [(202, [(4, [(2, (-2147483648), 2147483647), (3, 0, 8)], [], [], [], 1, true)], [], [], [])]) xoM14 (by decide +kernel)
def xtM15 : List xU := xuM14 :: xtM14
theorem xoM15 : ∀ u ∈ xtM15, x_uok x_B u := x_tab xsM14 xoM14
/-- WashAndDryModel.digits -/
def xuM15 : xU := (205, 0, [(0, 61, 0, 0)], [], (1, (-2147483648), 2147483647))
theorem xsM15 : x_uok x_B xuM15 := x_chk_ok (n := 20000) (ks := [(205, [(9, [(1, (-2147483648), 2147483647), (2, (-1), 7)], [], [(61, 10, 11)], [], 1, false)], [], [], [])]) xoM15 (by decide +kernel)
def xtM16 : List xU := xuM15 :: xtM15
theorem xoM16 : ∀ u ∈ xtM16, x_uok x_B u := x_tab xsM15 xoM15
/-- WashAndDryModel.sorts -/
def xuM16 : xU := (204, 0, [(0, 61, 0, 0)], [(61, 10, 12), (70, 0, 8)], (0, 0, 0))
theorem xsM16 : x_uok x_B xuM16 := x_chk_ok (n := 20000) (ks := [(204, [(2, [(1, 0, 8)], [], [], [], 0, true), (12, [(2, 0, 7)], [], [(61, 9, 10)], [], 0, false)], [], [(2, [2])], [])]) xoM16 (by decide +kernel)
def xtM17 : List xU := xuM16 :: xtM16
theorem xoM17 : ∀ u ∈ xtM17, x_uok x_B u := x_tab xsM16 xoM16
/-- WashAndDryModel.handsThrough -/
def xuM17 : xU := (206, 2, [(0, 61, 0, 0)], [], (1, (-2147483648), 2147483647))
theorem xsM17 : x_uok x_B xuM17 := x_chk_ok (n := 20000) (ks := [(206, [(6, [(1, (-2147483648), 2147483647), (2, (-2147483648), 2147483647), (3, 0, 8)], [], [], [], 2, true)], [], [], [])]) xoM17 (by decide +kernel)
def xtM18 : List xU := xuM17 :: xtM17
theorem xoM18 : ∀ u ∈ xtM18, x_uok x_B u := x_tab xsM17 xoM17
/-- WashAndDryModel.keyBy -/
def xuM18 : xU := (208, 2, [(0, 61, 0, 0), (1, 0, 0, 7), (1, 0, (-2147483648), 2147483647)], [], (1, (-2147483648), 2147483647))
theorem xsM18 : x_uok x_B xuM18 := x_chk_ok (n := 20000) (ks := []) xoM18 (by decide +kernel)
def xtM19 : List xU := xuM18 :: xtM18
theorem xoM19 : ∀ u ∈ xtM19, x_uok x_B u := x_tab xsM18 xoM18
/-- WashAndDryModel.laysRule -/
def xuM19 : xU := (209, 3, [(0, 61, 0, 0), (1, 0, (-2147483648), 2147483647)], [(61, 10, 12), (70, 0, 8), (87, 0, 8)], (0, 0, 0))
theorem xsM19 : x_uok x_B xuM19 := x_chk_ok (n := 20000) (ks := [(209, [(2, [(2, 0, 8)], [], [], [], 0, true)], [], [], [])]) xoM19 (by decide +kernel)
def xtM20 : List xU := xuM19 :: xtM19
theorem xoM20 : ∀ u ∈ xtM20, x_uok x_B u := x_tab xsM19 xoM19
/-- WashAndDryModel.numbers -/
def xuM20 : xU := (213, 0, [(0, 61, 0, 0)], [], (1, (-2147483648), 2147483647))
theorem xsM20 : x_uok x_B xuM20 := x_chk_ok (n := 20000) (ks := [(213, [(4, [(1, (-2147483648), 2147483647), (2, 0, 8)], [], [], [], 1, true)], [], [], [])]) xoM20 (by decide +kernel)
def xtM21 : List xU := xuM20 :: xtM20
theorem xoM21 : ∀ u ∈ xtM21, x_uok x_B u := x_tab xsM20 xoM20
/-- WashAndDryModel.longerBy -/
def xuM21 : xU := (225, 3, [(0, 61, 0, 0), (1, 0, (-2147483648), 2147483647)], [], (1, (-2147483648), 2147483647))
theorem xsM21 : x_uok x_B xuM21 := x_chk_ok (n := 20000) (ks := [(225, [(7, [(2, (-2147483648), 2147483647), (3, (-2147483648), 2147483647), (4, 0, 8)], [], [], [], 2, true)], [], [], [])]) xoM21 (by decide +kernel)
def xtM22 : List xU := xuM21 :: xtM21
theorem xoM22 : ∀ u ∈ xtM22, x_uok x_B u := x_tab xsM21 xoM21
/-- WashAndDryModel.changedOver -/
def xuM22 : xU := (239, 2, [(0, 61, 0, 0), (1, 0, (-2147483648), 2147483647), (1, 0, (-2147483648), 2147483647), (1, 0, (-2147483648), 2147483647)], [], (1, (-2147483648), 2147483647))
theorem xsM22 : x_uok x_B xuM22 := x_chk_ok (n := 20000) (ks := [(239, [(9, [(4, (-2147483648), 2147483647), (5, (-2147483648), 2147483647), (6, 0, 8)], [], [], [], 2, true)], [], [(9, [7])], [])]) xoM22 (by decide +kernel)
def xtM23 : List xU := xuM22 :: xtM22
theorem xoM23 : ∀ u ∈ xtM23, x_uok x_B u := x_tab xsM22 xoM22
/-- WashAndDryModel.weekFar -/
def xuM23 : xU := (241, 1, [(0, 61, 0, 0), (1, 0, (-2147483648), 2147483647)], [], (1, (-2147483648), 2147483647))
theorem xsM23 : x_uok x_B xuM23 := x_chk_ok (n := 20000) (ks := [(241, [(4, [(2, (-2147483648), 2147483647), (3, 0, 7)], [], [], [], 1, true)], [], [], [])]) xoM23 (by decide +kernel)
def xtM24 : List xU := xuM23 :: xtM23
theorem xoM24 : ∀ u ∈ xtM24, x_uok x_B u := x_tab xsM23 xoM23
/-- WashAndDryModel.findPicked -/
def xuM24 : xU := (231, 3, [(0, 61, 0, 0)], [(89, 0, 256)], (0, 0, 0))
theorem xsM24 : x_uok x_B xuM24 := x_chk_ok (n := 20000) (ks := [(231, [(2, [(1, 0, 288)], [], [], [], 0, true), (31, [(2, 0, 8)], [], [(61, 9, 10)], [], 0, true)], [], [(2, [2, 3]), (31, [3])], [])]) xoM24 (by decide +kernel)
def xtM25 : List xU := xuM24 :: xtM24
theorem xoM25 : ∀ u ∈ xtM25, x_uok x_B u := x_tab xsM24 xoM24
/-- WashAndDryModel.awayAt -/
def xuM25 : xU := (233, 4, [(0, 61, 0, 0)], [(61, 35, 43), (81, 0, 8), (82, 0, 8), (83, 0, 8), (84, 0, 8), (85, 0, 8), (86, 0, 3)], (1, (-2147483648), 2147483647))
theorem xsM25 : x_uok x_B xuM25 := x_chk_ok (n := 20000) (ks := [(233, [(8, [(1, (-2147483648), 2147483647), (2, 0, 8)], [], [], [], 1, true)], [], [], [])]) xoM25 (by decide +kernel)
def xtM26 : List xU := xuM25 :: xtM25
theorem xoM26 : ∀ u ∈ xtM26, x_uok x_B u := x_tab xsM25 xoM25
/-- WashAndDryModel.laterBy -/
def xuM26 : xU := (235, 5, [(0, 61, 0, 0), (1, 0, (-2147483648), 2147483647)], [(61, 35, 44), (81, 0, 8), (82, 0, 8), (83, 0, 8), (84, 0, 8), (85, 0, 8), (86, 0, 3)], (1, (-2147483648), 2147483647))
theorem xsM26 : x_uok x_B xuM26 := x_chk_ok (n := 20000) (ks := []) xoM26 (by decide +kernel)
def xtM27 : List xU := xuM26 :: xtM26
theorem xoM27 : ∀ u ∈ xtM27, x_uok x_B u := x_tab xsM26 xoM26
/-- WashAndDryModel.placeOf -/
def xuM27 : xU := (156, 0, [(0, 61, 0, 0), (1, 0, (-2147483648), 2147483647)], [], (1, (-9), 7))
theorem xsM27 : x_uok x_B xuM27 := x_chk_ok (n := 20000) (ks := [(156, [(2, [(2, 0, 8)], [], [], [], 0, true)], [], [], [])]) xoM27 (by decide +kernel)
def xtM28 : List xU := xuM27 :: xtM27
theorem xoM28 : ∀ u ∈ xtM28, x_uok x_B u := x_tab xsM27 xoM27
/-- WashAndDryModel.leavesOut -/
def xuM28 : xU := (228, 1, [(0, 61, 0, 0), (1, 0, (-2147483648), 2147483647)], [(61, 10, 12), (70, 0, 8)], (0, 0, 0))
theorem xsM28 : x_uok x_B xuM28 := x_chk_ok (n := 20000) (ks := [(228, [(23, [(4, 0, 8)], [(61, 10, 0, 8)], [], [(1, 0, 0)], 0, true)], [], [], [])]) xoM28 (by decide +kernel)
def xtM29 : List xU := xuM28 :: xtM28
theorem xoM29 : ∀ u ∈ xtM29, x_uok x_B u := x_tab xsM28 xoM28
/-- WashAndDryModel.bits -/
def xuM29 : xU := (151, 0, [(1, 0, (-2147483648), 2147483647)], [], (1, (-2147483648), 2147483647))
theorem xsM29 : x_uok x_B xuM29 := x_chk_ok (n := 20000) (ks := [(151, [(4, [(1, (-2147483648), 2147483647), (2, 0, 96)], [], [], [], 1, true)], [], [], [])]) xoM29 (by decide +kernel)
def xtM30 : List xU := xuM29 :: xtM29
theorem xoM30 : ∀ u ∈ xtM30, x_uok x_B u := x_tab xsM29 xoM29
/-- WashAndDryModel.no -/
def xuM30 : xU := (146, 0, [(0, 61, 0, 0), (1, 0, (-6), (-1))], [(62, 1, 7)], (1, (-6), (-1)))
theorem xsM30 : x_uok x_B xuM30 := x_chk_ok (n := 20000) (ks := []) xoM30 (by decide +kernel)
def xtM31 : List xU := xuM30 :: xtM30
theorem xoM31 : ∀ u ∈ xtM31, x_uok x_B u := x_tab xsM30 xoM30
/-- WashAndDryModel.bound -/
def xuM31 : xU := (149, 0, [(1, 0, (-2147483648), 2147483647), (1, 0, 1, 1), (1, 0, 20, 20)], [], (1, (-6), 0))
theorem xsM31 : x_uok x_B xuM31 := x_chk_ok (n := 20000) (ks := []) xoM31 (by decide +kernel)
def xtM32 : List xU := xuM31 :: xtM31
theorem xoM32 : ∀ u ∈ xtM32, x_uok x_B u := x_tab xsM31 xoM31
/-- WashAndDryModel.isIn -/
def xuM32 : xU := (148, 0, [(1, 0, (-2147483648), 2147483647), (1, 0, 0, 0), (1, 0, 1, 1)], [], (1, 0, 1))
theorem xsM32 : x_uok x_B xuM32 := x_chk_ok (n := 20000) (ks := []) xoM32 (by decide +kernel)
def xtM33 : List xU := xuM32 :: xtM32
theorem xoM33 : ∀ u ∈ xtM33, x_uok x_B u := x_tab xsM32 xoM32

/-! THE WORLD of both constructors as the layout (printed by gen5.py) -/
def nAdr (a b c d : Nat) (as bs : List Nat) : List Nat := [a, as.getD 0 0, as.getD 4 0, as.getD 7 0, as.getD 11 0, as.getD 20 0, as.getD 22 0, as.getD 24 0, as.getD 33 0, as.getD 38 0, as.getD 45 0, as.getD 49 0, as.getD 54 0, as.getD 61 0, b, as.getD 1 0, as.getD 2 0, as.getD 3 0, as.getD 10 0, as.getD 5 0, as.getD 6 0, as.getD 8 0, as.getD 9 0, as.getD 12 0, as.getD 13 0, as.getD 14 0, as.getD 15 0, as.getD 16 0, as.getD 17 0, as.getD 18 0, as.getD 19 0, as.getD 21 0, as.getD 23 0, as.getD 25 0, as.getD 26 0, as.getD 27 0, as.getD 28 0, as.getD 29 0, as.getD 30 0, as.getD 31 0, as.getD 32 0, as.getD 34 0, as.getD 35 0, as.getD 36 0, as.getD 37 0, as.getD 39 0, as.getD 40 0, as.getD 41 0, as.getD 42 0, as.getD 43 0, as.getD 44 0, as.getD 46 0, as.getD 47 0, as.getD 48 0, as.getD 50 0, as.getD 51 0, as.getD 52 0, as.getD 53 0, as.getD 55 0, as.getD 56 0, as.getD 57 0, as.getD 58 0, as.getD 59 0, as.getD 60 0, as.getD 62 0, as.getD 63 0, as.getD 64 0, as.getD 65 0, as.getD 66 0, as.getD 67 0, bs.getD 0 0, bs.getD 1 0, bs.getD 2 0, bs.getD 3 0, bs.getD 4 0, bs.getD 5 0, bs.getD 6 0, bs.getD 7 0, bs.getD 8 0, bs.getD 9 0, bs.getD 10 0, bs.getD 11 0, bs.getD 12 0, bs.getD 13 0, bs.getD 14 0, bs.getD 15 0, bs.getD 16 0, bs.getD 17 0, bs.getD 18 0, bs.getD 19 0, bs.getD 20 0, bs.getD 21 0, bs.getD 22 0, bs.getD 23 0, bs.getD 24 0, bs.getD 25 0, bs.getD 26 0, bs.getD 27 0, bs.getD 28 0, bs.getD 29 0, bs.getD 30 0, bs.getD 31 0, bs.getD 32 0, bs.getD 33 0, bs.getD 34 0, bs.getD 35 0, bs.getD 36 0, bs.getD 37 0, bs.getD 38 0, bs.getD 39 0, c, d]
def nG (g : kG) (a b c d : Nat) (as bs : List Nat) : kG := (g.1, g.2.1, fun o => (nAdr a b c d as bs).getD o 0)
def nPl : List Nat := [0, 1, 5, 8, 12, 21, 23, 25, 34, 39, 46, 50, 55, 62, 69, 2, 3, 4, 11, 6, 7, 9, 10, 13, 14, 15, 16, 17, 18, 19, 20, 22, 24, 26, 27, 28, 29, 30, 31, 32, 33, 35, 36, 37, 38, 40, 41, 42, 43, 44, 45, 47, 48, 49, 51, 52, 53, 54, 56, 57, 58, 59, 60, 61, 63, 64, 65, 66, 67, 68, 70, 71, 72, 73, 74, 75, 76, 77, 78, 79, 80, 81, 82, 83, 84, 85, 86, 87, 88, 89, 90, 91, 92, 93, 94, 95, 96, 97, 98, 99, 100, 101, 102, 103, 104, 105, 106, 107, 108, 109, 110]
noncomputable def nWs (g : kG) (w : Int32) (a b c : Nat) (as bs : List Nat) : va_W := nF_11 g [.int w] a as ++ nF_12 g [.int w] b bs ++ [(c, .inl (g.2.1.2.2, 1, .inr (.inl (fun _ => Int64.ofInt 0))))]
theorem nPl_nd : va_nd nPl = true := by decide +kernel
def nWsE (g : kG) (x : Int) (a b c : Nat) (as bs : List Nat) : va_W := [(a, .inr (11, [.int (Int32.ofInt x), .ref (as.getD 0 0), .ref (as.getD 11 0), .ref (as.getD 20 0), .ref (as.getD 22 0), .ref (as.getD 24 0), .ref (as.getD 33 0), .ref (as.getD 38 0), .ref (as.getD 45 0), .ref (as.getD 54 0), .ref (as.getD 49 0), .ref (as.getD 61 0), .int 0])),
  (as.getD 0 0, .inr (10, [.ref (as.getD 1 0), .ref (as.getD 2 0), .ref (as.getD 3 0), .int 0, .int 0, .int 0, .ref (as.getD 4 0), .ref (as.getD 7 0), .ref (as.getD 10 0), .int 0])),
  (as.getD 1 0, .inl (g.2.1.1, 5000, .inl (fun _ => Int32.ofInt 0))),
  (as.getD 2 0, .inl (g.2.1.1, 5000, .inl (fun _ => Int32.ofInt 0))),
  (as.getD 3 0, .inl (g.2.1.1, 900, .inl (fun _ => Int32.ofInt 0))),
  (as.getD 4 0, .inr (1, [.ref (as.getD 5 0), .ref (as.getD 6 0), .int 0, .int 0])),
  (as.getD 5 0, .inl (g.2.1.1, 900, .inl (fun _ => Int32.ofInt 0))),
  (as.getD 6 0, .inl (g.2.1.1, 301, .inl (fun _ => Int32.ofInt 0))),
  (as.getD 7 0, .inr (1, [.ref (as.getD 8 0), .ref (as.getD 9 0), .int 0, .int 0])),
  (as.getD 8 0, .inl (g.2.1.1, 900, .inl (fun _ => Int32.ofInt 0))),
  (as.getD 9 0, .inl (g.2.1.1, 301, .inl (fun _ => Int32.ofInt 0))),
  (as.getD 10 0, .inl (g.2.1.2.1, 5000, .inl (fun _ => Int32.ofInt 0))),
  (as.getD 11 0, .inr (8, [.ref (as.getD 12 0), .ref (as.getD 13 0), .ref (as.getD 14 0), .ref (as.getD 15 0), .ref (as.getD 16 0), .ref (as.getD 17 0), .ref (as.getD 0 0), .ref (as.getD 18 0), .ref (as.getD 19 0)])),
  (as.getD 12 0, .inl (g.2.1.1, 5000, .inl (fun _ => Int32.ofInt 0))),
  (as.getD 13 0, .inl (g.2.1.2.1, 5000, .inl (fun _ => Int32.ofInt 0))),
  (as.getD 14 0, .inl (g.2.1.1, 300, .inl (fun _ => Int32.ofInt 0))),
  (as.getD 15 0, .inl (g.2.1.1, 300, .inl (fun _ => Int32.ofInt 0))),
  (as.getD 16 0, .inl (g.2.1.1, 300, .inl (fun _ => Int32.ofInt 0))),
  (as.getD 17 0, .inl (g.2.1.1, 300, .inl (fun _ => Int32.ofInt 0))),
  (as.getD 18 0, .inl (g.2.1.1, 300, .inl (fun _ => Int32.ofInt 0))),
  (as.getD 19 0, .inl (g.2.1.1, 300, .inl (fun _ => Int32.ofInt 0))),
  (as.getD 20 0, .inr (3, [.ref (as.getD 0 0), .ref (as.getD 11 0), .ref (as.getD 21 0)])),
  (as.getD 21 0, .inl (g.2.1.2.1, 300, .inl (fun _ => Int32.ofInt 0))),
  (as.getD 22 0, .inr (9, [.ref (as.getD 0 0), .ref (as.getD 11 0), .ref (as.getD 23 0), .int 0])),
  (as.getD 23 0, .inl (g.2.1.1, 300, .inl (fun _ => Int32.ofInt 0))),
  (as.getD 24 0, .inr (5, [.ref (as.getD 25 0), .ref (as.getD 0 0), .ref (as.getD 26 0), .ref (as.getD 27 0), .ref (as.getD 28 0), .ref (as.getD 29 0), .ref (as.getD 30 0), .ref (as.getD 31 0), .ref (as.getD 32 0), .int 0])),
  (as.getD 25 0, .inl (g.2.1.2.1, 5000, .inl (fun _ => Int32.ofInt 0))),
  (as.getD 26 0, .inl (g.2.1.1, 300, .inl (fun _ => Int32.ofInt 0))),
  (as.getD 27 0, .inl (g.2.1.1, 300, .inl (fun _ => Int32.ofInt 0))),
  (as.getD 28 0, .inl (g.2.1.1, 300, .inl (fun _ => Int32.ofInt 0))),
  (as.getD 29 0, .inl (g.2.1.1, 300, .inl (fun _ => Int32.ofInt 0))),
  (as.getD 30 0, .inl (g.2.1.1, 300, .inl (fun _ => Int32.ofInt 0))),
  (as.getD 31 0, .inl (g.2.1.1, 300, .inl (fun _ => Int32.ofInt 0))),
  (as.getD 32 0, .inl (g.2.1.1, 300, .inl (fun _ => Int32.ofInt 0))),
  (as.getD 33 0, .inr (7, [.ref (as.getD 0 0), .ref (as.getD 34 0), .ref (as.getD 35 0), .ref (as.getD 36 0), .ref (as.getD 37 0), .int 0, .int 0])),
  (as.getD 34 0, .inl (g.2.1.1, 300, .inl (fun _ => Int32.ofInt 0))),
  (as.getD 35 0, .inl (g.2.1.1, 300, .inl (fun _ => Int32.ofInt 0))),
  (as.getD 36 0, .inl (g.2.1.1, 300, .inl (fun _ => Int32.ofInt 0))),
  (as.getD 37 0, .inl (g.2.1.1, 300, .inl (fun _ => Int32.ofInt 0))),
  (as.getD 38 0, .inr (6, [.ref (as.getD 0 0), .ref (as.getD 39 0), .ref (as.getD 40 0), .ref (as.getD 41 0), .ref (as.getD 42 0), .ref (as.getD 43 0), .ref (as.getD 44 0), .long 0, .int 0])),
  (as.getD 39 0, .inl (g.2.1.1, 301, .inl (fun _ => Int32.ofInt 0))),
  (as.getD 40 0, .inl (g.2.1.1, 1800, .inl (fun _ => Int32.ofInt 0))),
  (as.getD 41 0, .inl (g.2.1.1, 300, .inl (fun _ => Int32.ofInt 0))),
  (as.getD 42 0, .inl (g.2.1.1, 300, .inl (fun _ => Int32.ofInt 0))),
  (as.getD 43 0, .inl (g.2.1.1, 300, .inl (fun _ => Int32.ofInt 0))),
  (as.getD 44 0, .inl (g.2.1.1, 300, .inl (fun _ => Int32.ofInt 0))),
  (as.getD 45 0, .inr (0, [.ref (as.getD 0 0), .ref (as.getD 46 0), .ref (as.getD 47 0), .ref (as.getD 48 0)])),
  (as.getD 46 0, .inl (g.2.1.1, 300, .inl (fun _ => Int32.ofInt 0))),
  (as.getD 47 0, .inl (g.2.1.1, 300, .inl (fun _ => Int32.ofInt 0))),
  (as.getD 48 0, .inl (g.2.1.2.1, 300, .inl (fun _ => Int32.ofInt 0))),
  (as.getD 49 0, .inr (2, [.int 0, .int 0, .int 0, .ref (as.getD 50 0), .ref (as.getD 51 0), .ref (as.getD 52 0), .ref (as.getD 53 0)])),
  (as.getD 50 0, .inl (g.2.1.1, 300, .inl (fun _ => Int32.ofInt 0))),
  (as.getD 51 0, .inl (g.2.1.1, 300, .inl (fun _ => Int32.ofInt 0))),
  (as.getD 52 0, .inl (g.2.1.1, 300, .inl (fun _ => Int32.ofInt 0))),
  (as.getD 53 0, .inl (g.2.1.2.1, 300, .inl (fun _ => Int32.ofInt 0))),
  (as.getD 54 0, .inr (4, [.int 0, .ref (as.getD 0 0), .ref (as.getD 49 0), .ref (as.getD 55 0), .ref (as.getD 56 0), .ref (as.getD 57 0), .ref (as.getD 58 0), .ref (as.getD 59 0), .ref (as.getD 60 0)])),
  (as.getD 55 0, .inl (g.2.1.1, 60, .inl (fun _ => Int32.ofInt 0))),
  (as.getD 56 0, .inl (g.2.1.2.1, 60, .inl (fun _ => Int32.ofInt 0))),
  (as.getD 57 0, .inl (g.2.1.1, 60, .inl (fun _ => Int32.ofInt 0))),
  (as.getD 58 0, .inl (g.2.1.1, 60, .inl (fun _ => Int32.ofInt 0))),
  (as.getD 59 0, .inl (g.2.1.1, 5000, .inl (fun k => Int32.ofInt (if k < 5000 then -1 else 0)))),
  (as.getD 60 0, .inl (g.2.1.1, 60, .inl (fun k => Int32.ofInt (if k < 60 then -1 else 0)))),
  (as.getD 61 0, .inr (6, [.ref (as.getD 0 0), .ref (as.getD 62 0), .ref (as.getD 63 0), .ref (as.getD 64 0), .ref (as.getD 65 0), .ref (as.getD 66 0), .ref (as.getD 67 0), .long 0, .int 0])),
  (as.getD 62 0, .inl (g.2.1.1, 301, .inl (fun _ => Int32.ofInt 0))),
  (as.getD 63 0, .inl (g.2.1.1, 1800, .inl (fun _ => Int32.ofInt 0))),
  (as.getD 64 0, .inl (g.2.1.1, 300, .inl (fun _ => Int32.ofInt 0))),
  (as.getD 65 0, .inl (g.2.1.1, 300, .inl (fun _ => Int32.ofInt 0))),
  (as.getD 66 0, .inl (g.2.1.1, 300, .inl (fun _ => Int32.ofInt 0))),
  (as.getD 67 0, .inl (g.2.1.1, 300, .inl (fun _ => Int32.ofInt 0))),
  (b, .inr (12, [.int (Int32.ofInt x), .int 0, .ref (bs.getD 0 0), .int 0, .ref (bs.getD 1 0), .ref (bs.getD 2 0), .ref (bs.getD 3 0), .ref (bs.getD 4 0), .ref (bs.getD 5 0), .ref (bs.getD 6 0), .int 0, .ref (bs.getD 7 0), .ref (bs.getD 8 0), .ref (bs.getD 9 0), .int 0, .ref (bs.getD 10 0), .int 0, .int 0, .ref (bs.getD 11 0), .ref (bs.getD 12 0), .ref (bs.getD 13 0), .ref (bs.getD 14 0), .int 0, .ref (bs.getD 15 0), .ref (bs.getD 16 0), .ref (bs.getD 17 0), .ref (bs.getD 18 0), .int 0, .ref (bs.getD 19 0), .ref (bs.getD 20 0), .ref (bs.getD 21 0), .ref (bs.getD 22 0), .ref (bs.getD 23 0), .ref (bs.getD 24 0), .ref (bs.getD 25 0), .ref (bs.getD 26 0), .ref (bs.getD 27 0), .ref (bs.getD 28 0), .ref (bs.getD 29 0), .ref (bs.getD 30 0), .ref (bs.getD 31 0), .ref (bs.getD 32 0), .ref (bs.getD 33 0), .ref (bs.getD 34 0), .int 0, .ref (bs.getD 35 0), .ref (bs.getD 36 0), .ref (bs.getD 37 0), .ref (bs.getD 38 0), .ref (bs.getD 39 0)])),
  (bs.getD 0 0, .inl (g.2.1.1, 300, .inl (fun _ => Int32.ofInt 0))),
  (bs.getD 1 0, .inl (g.2.1.1, 5000, .inl (fun _ => Int32.ofInt 0))),
  (bs.getD 2 0, .inl (g.2.1.1, 5000, .inl (fun _ => Int32.ofInt 0))),
  (bs.getD 3 0, .inl (g.2.1.1, 5000, .inl (fun _ => Int32.ofInt 0))),
  (bs.getD 4 0, .inl (g.2.1.2.1, 5000, .inl (fun _ => Int32.ofInt 0))),
  (bs.getD 5 0, .inl (g.2.1.2.1, 5000, .inl (fun _ => Int32.ofInt 0))),
  (bs.getD 6 0, .inl (g.2.1.2.1, 5000, .inl (fun _ => Int32.ofInt 0))),
  (bs.getD 7 0, .inl (g.2.1.1, 901, .inl (fun _ => Int32.ofInt 0))),
  (bs.getD 8 0, .inl (g.2.1.1, 300, .inl (fun _ => Int32.ofInt 0))),
  (bs.getD 9 0, .inl (g.2.1.1, 300, .inl (fun _ => Int32.ofInt 0))),
  (bs.getD 10 0, .inl (g.2.1.1, 300, .inl (fun _ => Int32.ofInt 0))),
  (bs.getD 11 0, .inl (g.2.1.2.1, 60, .inl (fun _ => Int32.ofInt 0))),
  (bs.getD 12 0, .inl (g.2.1.1, 60, .inl (fun _ => Int32.ofInt 0))),
  (bs.getD 13 0, .inl (g.2.1.1, 60, .inl (fun _ => Int32.ofInt 0))),
  (bs.getD 14 0, .inl (g.2.1.1, 60, .inl (fun _ => Int32.ofInt 0))),
  (bs.getD 15 0, .inl (g.2.1.2.1, 300, .inl (fun _ => Int32.ofInt 0))),
  (bs.getD 16 0, .inl (g.2.1.1, 300, .inl (fun _ => Int32.ofInt 0))),
  (bs.getD 17 0, .inl (g.2.1.1, 300, .inl (fun _ => Int32.ofInt 0))),
  (bs.getD 18 0, .inl (g.2.1.1, 300, .inl (fun _ => Int32.ofInt 0))),
  (bs.getD 19 0, .inl (g.2.1.1, 300, .inl (fun _ => Int32.ofInt 0))),
  (bs.getD 20 0, .inl (g.2.1.1, 10000, .inl (fun _ => Int32.ofInt 0))),
  (bs.getD 21 0, .inl (g.2.1.2.1, 300, .inl (fun _ => Int32.ofInt 0))),
  (bs.getD 22 0, .inl (g.2.1.2.1, 300, .inl (fun _ => Int32.ofInt 0))),
  (bs.getD 23 0, .inl (g.2.1.1, 300, .inl (fun _ => Int32.ofInt 0))),
  (bs.getD 24 0, .inl (g.2.1.2.1, 300, .inl (fun _ => Int32.ofInt 0))),
  (bs.getD 25 0, .inl (g.2.1.2.1, 300, .inl (fun _ => Int32.ofInt 0))),
  (bs.getD 26 0, .inl (g.2.1.2.1, 300, .inl (fun _ => Int32.ofInt 0))),
  (bs.getD 27 0, .inl (g.2.1.2.1, 90000, .inl (fun _ => Int32.ofInt 0))),
  (bs.getD 28 0, .inl (g.2.1.1, 300, .inl (fun _ => Int32.ofInt 0))),
  (bs.getD 29 0, .inl (g.2.1.2.1, 300, .inl (fun _ => Int32.ofInt 0))),
  (bs.getD 30 0, .inl (g.2.1.2.1, 300, .inl (fun _ => Int32.ofInt 0))),
  (bs.getD 31 0, .inl (g.2.1.2.1, 300, .inl (fun _ => Int32.ofInt 0))),
  (bs.getD 32 0, .inl (g.2.1.1, 300, .inl (fun _ => Int32.ofInt 0))),
  (bs.getD 33 0, .inl (g.2.1.1, 300, .inl (fun _ => Int32.ofInt 0))),
  (bs.getD 34 0, .inl (g.2.1.1, 300, .inl (fun _ => Int32.ofInt 0))),
  (bs.getD 35 0, .inl (g.2.1.1, 960, .inl (fun _ => Int32.ofInt 0))),
  (bs.getD 36 0, .inl (g.2.1.1, 960, .inl (fun _ => Int32.ofInt 0))),
  (bs.getD 37 0, .inl (g.2.1.1, 300, .inl (fun _ => Int32.ofInt 0))),
  (bs.getD 38 0, .inl (g.2.1.1, 300, .inl (fun _ => Int32.ofInt 0))),
  (bs.getD 39 0, .inl (g.2.1.2.1, 300, .inl (fun _ => Int32.ofInt 0))),
  (c, .inl (g.2.1.2.2, 1, .inr (.inl (fun _ => Int64.ofInt 0))))]
set_option maxRecDepth 100000 in
set_option maxHeartbeats 4000000 in
theorem nWs_E {g : kG} {w : Int32} {x : Int} {a b c : Nat} {as bs : List Nat} (hw : nStr (.int w) = Int32.ofInt x) : nWs g w a b c as bs = nWsE g x a b c as bs := by
  unfold nWs nWsE nF_11 nF_12 nF_10 nF_9 nF_8 nF_7 nF_6 nF_5 nF_4 nF_3 nF_2 nF_1 nF_0 nRow
  simp only [List.nil_append, List.cons_append, List.append_assoc, List.getD_cons_zero, List.getD_cons_succ, hw]
section NK
variable {g : kG} {x : Int} {a b c d : Nat} {as bs : List Nat}
set_option maxRecDepth 100000 in
theorem we_0 : (nWsE g x a b c as bs)[0]? = some ((nG g a b c d as bs).2.2 0, kcell (nG g a b c d as bs) (nS0 x) 0 (kY.getD 0 (.inr (0, 0)))) := rfl
set_option maxRecDepth 100000 in
theorem we_1 : (nWsE g x a b c as bs)[1]? = some ((nG g a b c d as bs).2.2 1, kcell (nG g a b c d as bs) (nS0 x) 1 (kY.getD 1 (.inr (0, 0)))) := rfl
set_option maxRecDepth 100000 in
theorem we_2 : (nWsE g x a b c as bs)[5]? = some ((nG g a b c d as bs).2.2 2, kcell (nG g a b c d as bs) (nS0 x) 2 (kY.getD 2 (.inr (0, 0)))) := rfl
set_option maxRecDepth 100000 in
theorem we_3 : (nWsE g x a b c as bs)[8]? = some ((nG g a b c d as bs).2.2 3, kcell (nG g a b c d as bs) (nS0 x) 3 (kY.getD 3 (.inr (0, 0)))) := rfl
set_option maxRecDepth 100000 in
theorem we_4 : (nWsE g x a b c as bs)[12]? = some ((nG g a b c d as bs).2.2 4, kcell (nG g a b c d as bs) (nS0 x) 4 (kY.getD 4 (.inr (0, 0)))) := rfl
set_option maxRecDepth 100000 in
theorem we_5 : (nWsE g x a b c as bs)[21]? = some ((nG g a b c d as bs).2.2 5, kcell (nG g a b c d as bs) (nS0 x) 5 (kY.getD 5 (.inr (0, 0)))) := rfl
set_option maxRecDepth 100000 in
theorem we_6 : (nWsE g x a b c as bs)[23]? = some ((nG g a b c d as bs).2.2 6, kcell (nG g a b c d as bs) (nS0 x) 6 (kY.getD 6 (.inr (0, 0)))) := rfl
set_option maxRecDepth 100000 in
theorem we_7 : (nWsE g x a b c as bs)[25]? = some ((nG g a b c d as bs).2.2 7, kcell (nG g a b c d as bs) (nS0 x) 7 (kY.getD 7 (.inr (0, 0)))) := rfl
set_option maxRecDepth 100000 in
theorem we_8 : (nWsE g x a b c as bs)[34]? = some ((nG g a b c d as bs).2.2 8, kcell (nG g a b c d as bs) (nS0 x) 8 (kY.getD 8 (.inr (0, 0)))) := rfl
set_option maxRecDepth 100000 in
theorem we_9 : (nWsE g x a b c as bs)[39]? = some ((nG g a b c d as bs).2.2 9, kcell (nG g a b c d as bs) (nS0 x) 9 (kY.getD 9 (.inr (0, 0)))) := rfl
set_option maxRecDepth 100000 in
theorem we_10 : (nWsE g x a b c as bs)[46]? = some ((nG g a b c d as bs).2.2 10, kcell (nG g a b c d as bs) (nS0 x) 10 (kY.getD 10 (.inr (0, 0)))) := rfl
set_option maxRecDepth 100000 in
theorem we_11 : (nWsE g x a b c as bs)[50]? = some ((nG g a b c d as bs).2.2 11, kcell (nG g a b c d as bs) (nS0 x) 11 (kY.getD 11 (.inr (0, 0)))) := rfl
set_option maxRecDepth 100000 in
theorem we_12 : (nWsE g x a b c as bs)[55]? = some ((nG g a b c d as bs).2.2 12, kcell (nG g a b c d as bs) (nS0 x) 12 (kY.getD 12 (.inr (0, 0)))) := rfl
set_option maxRecDepth 100000 in
theorem we_13 : (nWsE g x a b c as bs)[62]? = some ((nG g a b c d as bs).2.2 13, kcell (nG g a b c d as bs) (nS0 x) 13 (kY.getD 13 (.inr (0, 0)))) := rfl
set_option maxRecDepth 100000 in
theorem we_14 : (nWsE g x a b c as bs)[69]? = some ((nG g a b c d as bs).2.2 14, kcell (nG g a b c d as bs) (nS0 x) 14 (kY.getD 14 (.inr (0, 0)))) := rfl
set_option maxRecDepth 100000 in
theorem we_15 : (nWsE g x a b c as bs)[2]? = some ((nG g a b c d as bs).2.2 15, kcell (nG g a b c d as bs) (nS0 x) 15 (kY.getD 15 (.inr (0, 0)))) := rfl
set_option maxRecDepth 100000 in
theorem we_16 : (nWsE g x a b c as bs)[3]? = some ((nG g a b c d as bs).2.2 16, kcell (nG g a b c d as bs) (nS0 x) 16 (kY.getD 16 (.inr (0, 0)))) := rfl
set_option maxRecDepth 100000 in
theorem we_17 : (nWsE g x a b c as bs)[4]? = some ((nG g a b c d as bs).2.2 17, kcell (nG g a b c d as bs) (nS0 x) 17 (kY.getD 17 (.inr (0, 0)))) := rfl
set_option maxRecDepth 100000 in
theorem we_18 : (nWsE g x a b c as bs)[11]? = some ((nG g a b c d as bs).2.2 18, kcell (nG g a b c d as bs) (nS0 x) 18 (kY.getD 18 (.inr (0, 0)))) := rfl
set_option maxRecDepth 100000 in
theorem we_19 : (nWsE g x a b c as bs)[6]? = some ((nG g a b c d as bs).2.2 19, kcell (nG g a b c d as bs) (nS0 x) 19 (kY.getD 19 (.inr (0, 0)))) := rfl
set_option maxRecDepth 100000 in
theorem we_20 : (nWsE g x a b c as bs)[7]? = some ((nG g a b c d as bs).2.2 20, kcell (nG g a b c d as bs) (nS0 x) 20 (kY.getD 20 (.inr (0, 0)))) := rfl
set_option maxRecDepth 100000 in
theorem we_21 : (nWsE g x a b c as bs)[9]? = some ((nG g a b c d as bs).2.2 21, kcell (nG g a b c d as bs) (nS0 x) 21 (kY.getD 21 (.inr (0, 0)))) := rfl
set_option maxRecDepth 100000 in
theorem we_22 : (nWsE g x a b c as bs)[10]? = some ((nG g a b c d as bs).2.2 22, kcell (nG g a b c d as bs) (nS0 x) 22 (kY.getD 22 (.inr (0, 0)))) := rfl
set_option maxRecDepth 100000 in
theorem we_23 : (nWsE g x a b c as bs)[13]? = some ((nG g a b c d as bs).2.2 23, kcell (nG g a b c d as bs) (nS0 x) 23 (kY.getD 23 (.inr (0, 0)))) := rfl
set_option maxRecDepth 100000 in
theorem we_24 : (nWsE g x a b c as bs)[14]? = some ((nG g a b c d as bs).2.2 24, kcell (nG g a b c d as bs) (nS0 x) 24 (kY.getD 24 (.inr (0, 0)))) := rfl
set_option maxRecDepth 100000 in
theorem we_25 : (nWsE g x a b c as bs)[15]? = some ((nG g a b c d as bs).2.2 25, kcell (nG g a b c d as bs) (nS0 x) 25 (kY.getD 25 (.inr (0, 0)))) := rfl
set_option maxRecDepth 100000 in
theorem we_26 : (nWsE g x a b c as bs)[16]? = some ((nG g a b c d as bs).2.2 26, kcell (nG g a b c d as bs) (nS0 x) 26 (kY.getD 26 (.inr (0, 0)))) := rfl
set_option maxRecDepth 100000 in
theorem we_27 : (nWsE g x a b c as bs)[17]? = some ((nG g a b c d as bs).2.2 27, kcell (nG g a b c d as bs) (nS0 x) 27 (kY.getD 27 (.inr (0, 0)))) := rfl
set_option maxRecDepth 100000 in
theorem we_28 : (nWsE g x a b c as bs)[18]? = some ((nG g a b c d as bs).2.2 28, kcell (nG g a b c d as bs) (nS0 x) 28 (kY.getD 28 (.inr (0, 0)))) := rfl
set_option maxRecDepth 100000 in
theorem we_29 : (nWsE g x a b c as bs)[19]? = some ((nG g a b c d as bs).2.2 29, kcell (nG g a b c d as bs) (nS0 x) 29 (kY.getD 29 (.inr (0, 0)))) := rfl
set_option maxRecDepth 100000 in
theorem we_30 : (nWsE g x a b c as bs)[20]? = some ((nG g a b c d as bs).2.2 30, kcell (nG g a b c d as bs) (nS0 x) 30 (kY.getD 30 (.inr (0, 0)))) := rfl
set_option maxRecDepth 100000 in
theorem we_31 : (nWsE g x a b c as bs)[22]? = some ((nG g a b c d as bs).2.2 31, kcell (nG g a b c d as bs) (nS0 x) 31 (kY.getD 31 (.inr (0, 0)))) := rfl
set_option maxRecDepth 100000 in
theorem we_32 : (nWsE g x a b c as bs)[24]? = some ((nG g a b c d as bs).2.2 32, kcell (nG g a b c d as bs) (nS0 x) 32 (kY.getD 32 (.inr (0, 0)))) := rfl
set_option maxRecDepth 100000 in
theorem we_33 : (nWsE g x a b c as bs)[26]? = some ((nG g a b c d as bs).2.2 33, kcell (nG g a b c d as bs) (nS0 x) 33 (kY.getD 33 (.inr (0, 0)))) := rfl
set_option maxRecDepth 100000 in
theorem we_34 : (nWsE g x a b c as bs)[27]? = some ((nG g a b c d as bs).2.2 34, kcell (nG g a b c d as bs) (nS0 x) 34 (kY.getD 34 (.inr (0, 0)))) := rfl
set_option maxRecDepth 100000 in
theorem we_35 : (nWsE g x a b c as bs)[28]? = some ((nG g a b c d as bs).2.2 35, kcell (nG g a b c d as bs) (nS0 x) 35 (kY.getD 35 (.inr (0, 0)))) := rfl
set_option maxRecDepth 100000 in
theorem we_36 : (nWsE g x a b c as bs)[29]? = some ((nG g a b c d as bs).2.2 36, kcell (nG g a b c d as bs) (nS0 x) 36 (kY.getD 36 (.inr (0, 0)))) := rfl
set_option maxRecDepth 100000 in
theorem we_37 : (nWsE g x a b c as bs)[30]? = some ((nG g a b c d as bs).2.2 37, kcell (nG g a b c d as bs) (nS0 x) 37 (kY.getD 37 (.inr (0, 0)))) := rfl
set_option maxRecDepth 100000 in
theorem we_38 : (nWsE g x a b c as bs)[31]? = some ((nG g a b c d as bs).2.2 38, kcell (nG g a b c d as bs) (nS0 x) 38 (kY.getD 38 (.inr (0, 0)))) := rfl
set_option maxRecDepth 100000 in
theorem we_39 : (nWsE g x a b c as bs)[32]? = some ((nG g a b c d as bs).2.2 39, kcell (nG g a b c d as bs) (nS0 x) 39 (kY.getD 39 (.inr (0, 0)))) := rfl
set_option maxRecDepth 100000 in
theorem we_40 : (nWsE g x a b c as bs)[33]? = some ((nG g a b c d as bs).2.2 40, kcell (nG g a b c d as bs) (nS0 x) 40 (kY.getD 40 (.inr (0, 0)))) := rfl
set_option maxRecDepth 100000 in
theorem we_41 : (nWsE g x a b c as bs)[35]? = some ((nG g a b c d as bs).2.2 41, kcell (nG g a b c d as bs) (nS0 x) 41 (kY.getD 41 (.inr (0, 0)))) := rfl
set_option maxRecDepth 100000 in
theorem we_42 : (nWsE g x a b c as bs)[36]? = some ((nG g a b c d as bs).2.2 42, kcell (nG g a b c d as bs) (nS0 x) 42 (kY.getD 42 (.inr (0, 0)))) := rfl
set_option maxRecDepth 100000 in
theorem we_43 : (nWsE g x a b c as bs)[37]? = some ((nG g a b c d as bs).2.2 43, kcell (nG g a b c d as bs) (nS0 x) 43 (kY.getD 43 (.inr (0, 0)))) := rfl
set_option maxRecDepth 100000 in
theorem we_44 : (nWsE g x a b c as bs)[38]? = some ((nG g a b c d as bs).2.2 44, kcell (nG g a b c d as bs) (nS0 x) 44 (kY.getD 44 (.inr (0, 0)))) := rfl
set_option maxRecDepth 100000 in
theorem we_45 : (nWsE g x a b c as bs)[40]? = some ((nG g a b c d as bs).2.2 45, kcell (nG g a b c d as bs) (nS0 x) 45 (kY.getD 45 (.inr (0, 0)))) := rfl
set_option maxRecDepth 100000 in
theorem we_46 : (nWsE g x a b c as bs)[41]? = some ((nG g a b c d as bs).2.2 46, kcell (nG g a b c d as bs) (nS0 x) 46 (kY.getD 46 (.inr (0, 0)))) := rfl
set_option maxRecDepth 100000 in
theorem we_47 : (nWsE g x a b c as bs)[42]? = some ((nG g a b c d as bs).2.2 47, kcell (nG g a b c d as bs) (nS0 x) 47 (kY.getD 47 (.inr (0, 0)))) := rfl
set_option maxRecDepth 100000 in
theorem we_48 : (nWsE g x a b c as bs)[43]? = some ((nG g a b c d as bs).2.2 48, kcell (nG g a b c d as bs) (nS0 x) 48 (kY.getD 48 (.inr (0, 0)))) := rfl
set_option maxRecDepth 100000 in
theorem we_49 : (nWsE g x a b c as bs)[44]? = some ((nG g a b c d as bs).2.2 49, kcell (nG g a b c d as bs) (nS0 x) 49 (kY.getD 49 (.inr (0, 0)))) := rfl
set_option maxRecDepth 100000 in
theorem we_50 : (nWsE g x a b c as bs)[45]? = some ((nG g a b c d as bs).2.2 50, kcell (nG g a b c d as bs) (nS0 x) 50 (kY.getD 50 (.inr (0, 0)))) := rfl
set_option maxRecDepth 100000 in
theorem we_51 : (nWsE g x a b c as bs)[47]? = some ((nG g a b c d as bs).2.2 51, kcell (nG g a b c d as bs) (nS0 x) 51 (kY.getD 51 (.inr (0, 0)))) := rfl
set_option maxRecDepth 100000 in
theorem we_52 : (nWsE g x a b c as bs)[48]? = some ((nG g a b c d as bs).2.2 52, kcell (nG g a b c d as bs) (nS0 x) 52 (kY.getD 52 (.inr (0, 0)))) := rfl
set_option maxRecDepth 100000 in
theorem we_53 : (nWsE g x a b c as bs)[49]? = some ((nG g a b c d as bs).2.2 53, kcell (nG g a b c d as bs) (nS0 x) 53 (kY.getD 53 (.inr (0, 0)))) := rfl
set_option maxRecDepth 100000 in
theorem we_54 : (nWsE g x a b c as bs)[51]? = some ((nG g a b c d as bs).2.2 54, kcell (nG g a b c d as bs) (nS0 x) 54 (kY.getD 54 (.inr (0, 0)))) := rfl
set_option maxRecDepth 100000 in
theorem we_55 : (nWsE g x a b c as bs)[52]? = some ((nG g a b c d as bs).2.2 55, kcell (nG g a b c d as bs) (nS0 x) 55 (kY.getD 55 (.inr (0, 0)))) := rfl
set_option maxRecDepth 100000 in
theorem we_56 : (nWsE g x a b c as bs)[53]? = some ((nG g a b c d as bs).2.2 56, kcell (nG g a b c d as bs) (nS0 x) 56 (kY.getD 56 (.inr (0, 0)))) := rfl
set_option maxRecDepth 100000 in
theorem we_57 : (nWsE g x a b c as bs)[54]? = some ((nG g a b c d as bs).2.2 57, kcell (nG g a b c d as bs) (nS0 x) 57 (kY.getD 57 (.inr (0, 0)))) := rfl
set_option maxRecDepth 100000 in
theorem we_58 : (nWsE g x a b c as bs)[56]? = some ((nG g a b c d as bs).2.2 58, kcell (nG g a b c d as bs) (nS0 x) 58 (kY.getD 58 (.inr (0, 0)))) := rfl
set_option maxRecDepth 100000 in
theorem we_59 : (nWsE g x a b c as bs)[57]? = some ((nG g a b c d as bs).2.2 59, kcell (nG g a b c d as bs) (nS0 x) 59 (kY.getD 59 (.inr (0, 0)))) := rfl
set_option maxRecDepth 100000 in
theorem we_60 : (nWsE g x a b c as bs)[58]? = some ((nG g a b c d as bs).2.2 60, kcell (nG g a b c d as bs) (nS0 x) 60 (kY.getD 60 (.inr (0, 0)))) := rfl
set_option maxRecDepth 100000 in
theorem we_61 : (nWsE g x a b c as bs)[59]? = some ((nG g a b c d as bs).2.2 61, kcell (nG g a b c d as bs) (nS0 x) 61 (kY.getD 61 (.inr (0, 0)))) := rfl
set_option maxRecDepth 100000 in
theorem we_62 : (nWsE g x a b c as bs)[60]? = some ((nG g a b c d as bs).2.2 62, kcell (nG g a b c d as bs) (nS0 x) 62 (kY.getD 62 (.inr (0, 0)))) := rfl
set_option maxRecDepth 100000 in
theorem we_63 : (nWsE g x a b c as bs)[61]? = some ((nG g a b c d as bs).2.2 63, kcell (nG g a b c d as bs) (nS0 x) 63 (kY.getD 63 (.inr (0, 0)))) := rfl
set_option maxRecDepth 100000 in
theorem we_64 : (nWsE g x a b c as bs)[63]? = some ((nG g a b c d as bs).2.2 64, kcell (nG g a b c d as bs) (nS0 x) 64 (kY.getD 64 (.inr (0, 0)))) := rfl
set_option maxRecDepth 100000 in
theorem we_65 : (nWsE g x a b c as bs)[64]? = some ((nG g a b c d as bs).2.2 65, kcell (nG g a b c d as bs) (nS0 x) 65 (kY.getD 65 (.inr (0, 0)))) := rfl
set_option maxRecDepth 100000 in
theorem we_66 : (nWsE g x a b c as bs)[65]? = some ((nG g a b c d as bs).2.2 66, kcell (nG g a b c d as bs) (nS0 x) 66 (kY.getD 66 (.inr (0, 0)))) := rfl
set_option maxRecDepth 100000 in
theorem we_67 : (nWsE g x a b c as bs)[66]? = some ((nG g a b c d as bs).2.2 67, kcell (nG g a b c d as bs) (nS0 x) 67 (kY.getD 67 (.inr (0, 0)))) := rfl
set_option maxRecDepth 100000 in
theorem we_68 : (nWsE g x a b c as bs)[67]? = some ((nG g a b c d as bs).2.2 68, kcell (nG g a b c d as bs) (nS0 x) 68 (kY.getD 68 (.inr (0, 0)))) := rfl
set_option maxRecDepth 100000 in
theorem we_69 : (nWsE g x a b c as bs)[68]? = some ((nG g a b c d as bs).2.2 69, kcell (nG g a b c d as bs) (nS0 x) 69 (kY.getD 69 (.inr (0, 0)))) := rfl
set_option maxRecDepth 100000 in
theorem we_70 : (nWsE g x a b c as bs)[70]? = some ((nG g a b c d as bs).2.2 70, kcell (nG g a b c d as bs) (nS0 x) 70 (kY.getD 70 (.inr (0, 0)))) := rfl
set_option maxRecDepth 100000 in
theorem we_71 : (nWsE g x a b c as bs)[71]? = some ((nG g a b c d as bs).2.2 71, kcell (nG g a b c d as bs) (nS0 x) 71 (kY.getD 71 (.inr (0, 0)))) := rfl
set_option maxRecDepth 100000 in
theorem we_72 : (nWsE g x a b c as bs)[72]? = some ((nG g a b c d as bs).2.2 72, kcell (nG g a b c d as bs) (nS0 x) 72 (kY.getD 72 (.inr (0, 0)))) := rfl
set_option maxRecDepth 100000 in
theorem we_73 : (nWsE g x a b c as bs)[73]? = some ((nG g a b c d as bs).2.2 73, kcell (nG g a b c d as bs) (nS0 x) 73 (kY.getD 73 (.inr (0, 0)))) := rfl
set_option maxRecDepth 100000 in
theorem we_74 : (nWsE g x a b c as bs)[74]? = some ((nG g a b c d as bs).2.2 74, kcell (nG g a b c d as bs) (nS0 x) 74 (kY.getD 74 (.inr (0, 0)))) := rfl
set_option maxRecDepth 100000 in
theorem we_75 : (nWsE g x a b c as bs)[75]? = some ((nG g a b c d as bs).2.2 75, kcell (nG g a b c d as bs) (nS0 x) 75 (kY.getD 75 (.inr (0, 0)))) := rfl
set_option maxRecDepth 100000 in
theorem we_76 : (nWsE g x a b c as bs)[76]? = some ((nG g a b c d as bs).2.2 76, kcell (nG g a b c d as bs) (nS0 x) 76 (kY.getD 76 (.inr (0, 0)))) := rfl
set_option maxRecDepth 100000 in
theorem we_77 : (nWsE g x a b c as bs)[77]? = some ((nG g a b c d as bs).2.2 77, kcell (nG g a b c d as bs) (nS0 x) 77 (kY.getD 77 (.inr (0, 0)))) := rfl
set_option maxRecDepth 100000 in
theorem we_78 : (nWsE g x a b c as bs)[78]? = some ((nG g a b c d as bs).2.2 78, kcell (nG g a b c d as bs) (nS0 x) 78 (kY.getD 78 (.inr (0, 0)))) := rfl
set_option maxRecDepth 100000 in
theorem we_79 : (nWsE g x a b c as bs)[79]? = some ((nG g a b c d as bs).2.2 79, kcell (nG g a b c d as bs) (nS0 x) 79 (kY.getD 79 (.inr (0, 0)))) := rfl
set_option maxRecDepth 100000 in
theorem we_80 : (nWsE g x a b c as bs)[80]? = some ((nG g a b c d as bs).2.2 80, kcell (nG g a b c d as bs) (nS0 x) 80 (kY.getD 80 (.inr (0, 0)))) := rfl
set_option maxRecDepth 100000 in
theorem we_81 : (nWsE g x a b c as bs)[81]? = some ((nG g a b c d as bs).2.2 81, kcell (nG g a b c d as bs) (nS0 x) 81 (kY.getD 81 (.inr (0, 0)))) := rfl
set_option maxRecDepth 100000 in
theorem we_82 : (nWsE g x a b c as bs)[82]? = some ((nG g a b c d as bs).2.2 82, kcell (nG g a b c d as bs) (nS0 x) 82 (kY.getD 82 (.inr (0, 0)))) := rfl
set_option maxRecDepth 100000 in
theorem we_83 : (nWsE g x a b c as bs)[83]? = some ((nG g a b c d as bs).2.2 83, kcell (nG g a b c d as bs) (nS0 x) 83 (kY.getD 83 (.inr (0, 0)))) := rfl
set_option maxRecDepth 100000 in
theorem we_84 : (nWsE g x a b c as bs)[84]? = some ((nG g a b c d as bs).2.2 84, kcell (nG g a b c d as bs) (nS0 x) 84 (kY.getD 84 (.inr (0, 0)))) := rfl
set_option maxRecDepth 100000 in
theorem we_85 : (nWsE g x a b c as bs)[85]? = some ((nG g a b c d as bs).2.2 85, kcell (nG g a b c d as bs) (nS0 x) 85 (kY.getD 85 (.inr (0, 0)))) := rfl
set_option maxRecDepth 100000 in
theorem we_86 : (nWsE g x a b c as bs)[86]? = some ((nG g a b c d as bs).2.2 86, kcell (nG g a b c d as bs) (nS0 x) 86 (kY.getD 86 (.inr (0, 0)))) := rfl
set_option maxRecDepth 100000 in
theorem we_87 : (nWsE g x a b c as bs)[87]? = some ((nG g a b c d as bs).2.2 87, kcell (nG g a b c d as bs) (nS0 x) 87 (kY.getD 87 (.inr (0, 0)))) := rfl
set_option maxRecDepth 100000 in
theorem we_88 : (nWsE g x a b c as bs)[88]? = some ((nG g a b c d as bs).2.2 88, kcell (nG g a b c d as bs) (nS0 x) 88 (kY.getD 88 (.inr (0, 0)))) := rfl
set_option maxRecDepth 100000 in
theorem we_89 : (nWsE g x a b c as bs)[89]? = some ((nG g a b c d as bs).2.2 89, kcell (nG g a b c d as bs) (nS0 x) 89 (kY.getD 89 (.inr (0, 0)))) := rfl
set_option maxRecDepth 100000 in
theorem we_90 : (nWsE g x a b c as bs)[90]? = some ((nG g a b c d as bs).2.2 90, kcell (nG g a b c d as bs) (nS0 x) 90 (kY.getD 90 (.inr (0, 0)))) := rfl
set_option maxRecDepth 100000 in
theorem we_91 : (nWsE g x a b c as bs)[91]? = some ((nG g a b c d as bs).2.2 91, kcell (nG g a b c d as bs) (nS0 x) 91 (kY.getD 91 (.inr (0, 0)))) := rfl
set_option maxRecDepth 100000 in
theorem we_92 : (nWsE g x a b c as bs)[92]? = some ((nG g a b c d as bs).2.2 92, kcell (nG g a b c d as bs) (nS0 x) 92 (kY.getD 92 (.inr (0, 0)))) := rfl
set_option maxRecDepth 100000 in
theorem we_93 : (nWsE g x a b c as bs)[93]? = some ((nG g a b c d as bs).2.2 93, kcell (nG g a b c d as bs) (nS0 x) 93 (kY.getD 93 (.inr (0, 0)))) := rfl
set_option maxRecDepth 100000 in
theorem we_94 : (nWsE g x a b c as bs)[94]? = some ((nG g a b c d as bs).2.2 94, kcell (nG g a b c d as bs) (nS0 x) 94 (kY.getD 94 (.inr (0, 0)))) := rfl
set_option maxRecDepth 100000 in
theorem we_95 : (nWsE g x a b c as bs)[95]? = some ((nG g a b c d as bs).2.2 95, kcell (nG g a b c d as bs) (nS0 x) 95 (kY.getD 95 (.inr (0, 0)))) := rfl
set_option maxRecDepth 100000 in
theorem we_96 : (nWsE g x a b c as bs)[96]? = some ((nG g a b c d as bs).2.2 96, kcell (nG g a b c d as bs) (nS0 x) 96 (kY.getD 96 (.inr (0, 0)))) := rfl
set_option maxRecDepth 100000 in
theorem we_97 : (nWsE g x a b c as bs)[97]? = some ((nG g a b c d as bs).2.2 97, kcell (nG g a b c d as bs) (nS0 x) 97 (kY.getD 97 (.inr (0, 0)))) := rfl
set_option maxRecDepth 100000 in
theorem we_98 : (nWsE g x a b c as bs)[98]? = some ((nG g a b c d as bs).2.2 98, kcell (nG g a b c d as bs) (nS0 x) 98 (kY.getD 98 (.inr (0, 0)))) := rfl
set_option maxRecDepth 100000 in
theorem we_99 : (nWsE g x a b c as bs)[99]? = some ((nG g a b c d as bs).2.2 99, kcell (nG g a b c d as bs) (nS0 x) 99 (kY.getD 99 (.inr (0, 0)))) := rfl
set_option maxRecDepth 100000 in
theorem we_100 : (nWsE g x a b c as bs)[100]? = some ((nG g a b c d as bs).2.2 100, kcell (nG g a b c d as bs) (nS0 x) 100 (kY.getD 100 (.inr (0, 0)))) := rfl
set_option maxRecDepth 100000 in
theorem we_101 : (nWsE g x a b c as bs)[101]? = some ((nG g a b c d as bs).2.2 101, kcell (nG g a b c d as bs) (nS0 x) 101 (kY.getD 101 (.inr (0, 0)))) := rfl
set_option maxRecDepth 100000 in
theorem we_102 : (nWsE g x a b c as bs)[102]? = some ((nG g a b c d as bs).2.2 102, kcell (nG g a b c d as bs) (nS0 x) 102 (kY.getD 102 (.inr (0, 0)))) := rfl
set_option maxRecDepth 100000 in
theorem we_103 : (nWsE g x a b c as bs)[103]? = some ((nG g a b c d as bs).2.2 103, kcell (nG g a b c d as bs) (nS0 x) 103 (kY.getD 103 (.inr (0, 0)))) := rfl
set_option maxRecDepth 100000 in
theorem we_104 : (nWsE g x a b c as bs)[104]? = some ((nG g a b c d as bs).2.2 104, kcell (nG g a b c d as bs) (nS0 x) 104 (kY.getD 104 (.inr (0, 0)))) := rfl
set_option maxRecDepth 100000 in
theorem we_105 : (nWsE g x a b c as bs)[105]? = some ((nG g a b c d as bs).2.2 105, kcell (nG g a b c d as bs) (nS0 x) 105 (kY.getD 105 (.inr (0, 0)))) := rfl
set_option maxRecDepth 100000 in
theorem we_106 : (nWsE g x a b c as bs)[106]? = some ((nG g a b c d as bs).2.2 106, kcell (nG g a b c d as bs) (nS0 x) 106 (kY.getD 106 (.inr (0, 0)))) := rfl
set_option maxRecDepth 100000 in
theorem we_107 : (nWsE g x a b c as bs)[107]? = some ((nG g a b c d as bs).2.2 107, kcell (nG g a b c d as bs) (nS0 x) 107 (kY.getD 107 (.inr (0, 0)))) := rfl
set_option maxRecDepth 100000 in
theorem we_108 : (nWsE g x a b c as bs)[108]? = some ((nG g a b c d as bs).2.2 108, kcell (nG g a b c d as bs) (nS0 x) 108 (kY.getD 108 (.inr (0, 0)))) := rfl
set_option maxRecDepth 100000 in
theorem we_109 : (nWsE g x a b c as bs)[109]? = some ((nG g a b c d as bs).2.2 109, kcell (nG g a b c d as bs) (nS0 x) 109 (kY.getD 109 (.inr (0, 0)))) := rfl
set_option maxRecDepth 100000 in
theorem we_110 : (nWsE g x a b c as bs)[110]? = some ((nG g a b c d as bs).2.2 110, kcell (nG g a b c d as bs) (nS0 x) 110 (kY.getD 110 (.inr (0, 0)))) := rfl
end NK
theorem kY_range : List.range kY.length = [0, 1, 2, 3, 4, 5, 6, 7, 8, 9, 10, 11, 12, 13, 14, 15, 16, 17, 18, 19, 20, 21, 22, 23, 24, 25, 26, 27, 28, 29, 30, 31, 32, 33, 34, 35, 36, 37, 38, 39, 40, 41, 42, 43, 44, 45, 46, 47, 48, 49, 50, 51, 52, 53, 54, 55, 56, 57, 58, 59, 60, 61, 62, 63, 64, 65, 66, 67, 68, 69, 70, 71, 72, 73, 74, 75, 76, 77, 78, 79, 80, 81, 82, 83, 84, 85, 86, 87, 88, 89, 90, 91, 92, 93, 94, 95, 96, 97, 98, 99, 100, 101, 102, 103, 104, 105, 106, 107, 108, 109, 110] := by decide +kernel
set_option maxRecDepth 100000 in
set_option maxHeartbeats 4000000 in
theorem nWs_kw {g : kG} {w : Int32} {x : Int} {a b c d : Nat} {as bs : List Nat} (hw : nStr (.int w) = Int32.ofInt x) : nPl.map (fun i => (nWs g w a b c as bs)[i]?) = (kw (nG g a b c d as bs) (nS0 x)).map some := by
  rw [nWs_E hw]
  unfold nPl kw
  rw [kY_range]
  simp only [List.map_cons, List.map_nil]
  rw [we_0 (d := d), we_1 (d := d), we_2 (d := d), we_3 (d := d), we_4 (d := d), we_5 (d := d), we_6 (d := d), we_7 (d := d), we_8 (d := d), we_9 (d := d), we_10 (d := d), we_11 (d := d), we_12 (d := d), we_13 (d := d), we_14 (d := d), we_15 (d := d), we_16 (d := d), we_17 (d := d), we_18 (d := d), we_19 (d := d), we_20 (d := d), we_21 (d := d), we_22 (d := d), we_23 (d := d), we_24 (d := d), we_25 (d := d), we_26 (d := d), we_27 (d := d), we_28 (d := d), we_29 (d := d), we_30 (d := d), we_31 (d := d), we_32 (d := d), we_33 (d := d), we_34 (d := d), we_35 (d := d), we_36 (d := d), we_37 (d := d), we_38 (d := d), we_39 (d := d), we_40 (d := d), we_41 (d := d), we_42 (d := d), we_43 (d := d), we_44 (d := d), we_45 (d := d), we_46 (d := d), we_47 (d := d), we_48 (d := d), we_49 (d := d), we_50 (d := d), we_51 (d := d), we_52 (d := d), we_53 (d := d), we_54 (d := d), we_55 (d := d), we_56 (d := d), we_57 (d := d), we_58 (d := d), we_59 (d := d), we_60 (d := d), we_61 (d := d), we_62 (d := d), we_63 (d := d), we_64 (d := d), we_65 (d := d), we_66 (d := d), we_67 (d := d), we_68 (d := d), we_69 (d := d), we_70 (d := d), we_71 (d := d), we_72 (d := d), we_73 (d := d), we_74 (d := d), we_75 (d := d), we_76 (d := d), we_77 (d := d), we_78 (d := d), we_79 (d := d), we_80 (d := d), we_81 (d := d), we_82 (d := d), we_83 (d := d), we_84 (d := d), we_85 (d := d), we_86 (d := d), we_87 (d := d), we_88 (d := d), we_89 (d := d), we_90 (d := d), we_91 (d := d), we_92 (d := d), we_93 (d := d), we_94 (d := d), we_95 (d := d), we_96 (d := d), we_97 (d := d), we_98 (d := d), we_99 (d := d), we_100 (d := d), we_101 (d := d), we_102 (d := d), we_103 (d := d), we_104 (d := d), we_105 (d := d), we_106 (d := d), we_107 (d := d), we_108 (d := d), we_109 (d := d), we_110 (d := d)]


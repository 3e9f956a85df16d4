/-! the model's memory, piece by piece (by program) -/
theorem bP_app {α : Type} {lv : LV} {FL : List (Nat × Nat × Nat)} {NL : List (Nat × Nat)} {CB : List BC} {k0 rc rs : Nat} {k : Nat → List Value → AM → Nat → Nat → Option α} {b : List Ent} : ∀ (a : List Ent) (n : Nat) (st : List Value) (M : AM) (nc ns : Nat), bP lv FL NL CB k0 rc rs k (a ++ b) n st M nc ns = bP lv FL NL CB k0 rc rs (fun n st M nc ns => bP lv FL NL CB k0 rc rs k b n st M nc ns) a n st M nc ns
  | [], _, _, _, _, _ => rfl
  | e :: a, n, st, M, nc, ns => by
    show b1 lv FL NL CB k0 rc rs e n st M nc ns _ = b1 lv FL NL CB k0 rc rs e n st M nc ns _
    congr 1
    funext n st M nc ns
    exact bP_app a n st M nc ns
def LIm_0 : List (Nat × Nat × Nat × Bool) := [(84, 0, (110, false)), (84, 1, (111, false)), (84, 2, (100, false)), (84, 3, (101, false)), (84, 4, (32, false)), (84, 5, (108, false)), (84, 6, (105, false))]
def LRm_0 : List (Nat × Nat × Nat) := [(82, 0, 83)]
set_option maxRecDepth 20000 in
theorem bm_0 (k : Nat → List Value → AM → Nat → Nat → Option (Nat × List Value × AM × Nat × Nat)) (M : AM) : bP (lv_args 0 ([82].map Value.ref)) FLc_Mo NLc_Mo [] 10 45 7966 k Ec_Mo_0 83 [] M 0 0 = k 85 [.int (cI 110), .int (cI 7), .ref 84, .ref 84, .ref 82] (PT0 LIm_0 LRm_0 M) 2 833 := rfl
def LIm_1 : List (Nat × Nat × Nat × Bool) := [(84, 7, (110, false)), (84, 8, (107, false)), (84, 9, (32, false)), (84, 10, (109, false)), (84, 11, (101, false)), (84, 12, (101, false)), (84, 13, (116, false)), (84, 14, (32, false)), (84, 15, (115, false)), (84, 16, (111, false))]
def LRm_1 : List (Nat × Nat × Nat) := []
set_option maxRecDepth 20000 in
theorem bm_1 (k : Nat → List Value → AM → Nat → Nat → Option (Nat × List Value × AM × Nat × Nat)) (M : AM) : bP (lv_args 0 ([82].map Value.ref)) FLc_Mo NLc_Mo [] 10 45 7966 k Ec_Mo_1 85 [.int (cI 110), .int (cI 7), .ref 84, .ref 84, .ref 82] M 2 833 = k 85 [.int (cI 117), .int (cI 17), .ref 84, .ref 84, .ref 82] (PT0 LIm_1 LRm_1 M) 2 833 := rfl
def LIm_2 : List (Nat × Nat × Nat × Bool) := [(84, 17, (117, false)), (84, 18, (114, false)), (84, 19, (99, false)), (84, 20, (101, false)), (84, 21, (32, false)), (84, 22, (106, false)), (84, 23, (111, false)), (84, 24, (105, false)), (84, 25, (110, false)), (84, 26, (32, false))]
def LRm_2 : List (Nat × Nat × Nat) := []
set_option maxRecDepth 20000 in
theorem bm_2 (k : Nat → List Value → AM → Nat → Nat → Option (Nat × List Value × AM × Nat × Nat)) (M : AM) : bP (lv_args 0 ([82].map Value.ref)) FLc_Mo NLc_Mo [] 10 45 7966 k Ec_Mo_2 85 [.int (cI 117), .int (cI 17), .ref 84, .ref 84, .ref 82] M 2 833 = k 85 [.int (cI 108), .int (cI 27), .ref 84, .ref 84, .ref 82] (PT0 LIm_2 LRm_2 M) 2 833 := rfl
def LIm_3 : List (Nat × Nat × Nat × Bool) := [(84, 27, (108, false)), (84, 28, (101, false)), (84, 29, (97, false)), (84, 30, (118, false)), (84, 31, (101, false)), (84, 32, (32, false)), (84, 33, (99, false)), (84, 34, (117, false)), (84, 35, (116, false)), (84, 36, (32, false))]
def LRm_3 : List (Nat × Nat × Nat) := []
set_option maxRecDepth 20000 in
theorem bm_3 (k : Nat → List Value → AM → Nat → Nat → Option (Nat × List Value × AM × Nat × Nat)) (M : AM) : bP (lv_args 0 ([82].map Value.ref)) FLc_Mo NLc_Mo [] 10 45 7966 k Ec_Mo_3 85 [.int (cI 108), .int (cI 27), .ref 84, .ref 84, .ref 82] M 2 833 = k 85 [.int (cI 109), .int (cI 37), .ref 84, .ref 84, .ref 82] (PT0 LIm_3 LRm_3 M) 2 833 := rfl
def LIm_4 : List (Nat × Nat × Nat × Bool) := [(84, 37, (109, false)), (84, 38, (101, false)), (84, 39, (110, false)), (84, 40, (100, false)), (84, 41, (32, false)), (84, 42, (115, false)), (84, 43, (101, false)), (84, 44, (110, false)), (84, 45, (100, false)), (84, 46, (32, false))]
def LRm_4 : List (Nat × Nat × Nat) := []
set_option maxRecDepth 20000 in
theorem bm_4 (k : Nat → List Value → AM → Nat → Nat → Option (Nat × List Value × AM × Nat × Nat)) (M : AM) : bP (lv_args 0 ([82].map Value.ref)) FLc_Mo NLc_Mo [] 10 45 7966 k Ec_Mo_4 85 [.int (cI 109), .int (cI 37), .ref 84, .ref 84, .ref 82] M 2 833 = k 85 [.int (cI 104), .int (cI 47), .ref 84, .ref 84, .ref 82] (PT0 LIm_4 LRm_4 M) 2 833 := rfl
def LIm_5 : List (Nat × Nat × Nat × Bool) := [(84, 47, (104, false)), (84, 48, (111, false)), (84, 49, (108, false)), (84, 50, (100, false)), (84, 51, (32, false)), (84, 52, (108, false)), (84, 53, (111, false)), (84, 54, (115, false)), (84, 55, (115, false)), (84, 56, (32, false))]
def LRm_5 : List (Nat × Nat × Nat) := []
set_option maxRecDepth 20000 in
theorem bm_5 (k : Nat → List Value → AM → Nat → Nat → Option (Nat × List Value × AM × Nat × Nat)) (M : AM) : bP (lv_args 0 ([82].map Value.ref)) FLc_Mo NLc_Mo [] 10 45 7966 k Ec_Mo_5 85 [.int (cI 104), .int (cI 47), .ref 84, .ref 84, .ref 82] M 2 833 = k 85 [.int (cI 115), .int (cI 57), .ref 84, .ref 84, .ref 82] (PT0 LIm_5 LRm_5 M) 2 833 := rfl
def LIm_6 : List (Nat × Nat × Nat × Bool) := [(84, 57, (115, false)), (84, 58, (101, false)), (84, 59, (101, false)), (84, 60, (100, false)), (84, 61, (32, false)), (84, 62, (108, false)), (84, 63, (97, false)), (84, 64, (119, false)), (84, 65, (32, false)), (84, 66, (109, false))]
def LRm_6 : List (Nat × Nat × Nat) := []
set_option maxRecDepth 20000 in
theorem bm_6 (k : Nat → List Value → AM → Nat → Nat → Option (Nat × List Value × AM × Nat × Nat)) (M : AM) : bP (lv_args 0 ([82].map Value.ref)) FLc_Mo NLc_Mo [] 10 45 7966 k Ec_Mo_6 85 [.int (cI 115), .int (cI 57), .ref 84, .ref 84, .ref 82] M 2 833 = k 85 [.int (cI 101), .int (cI 67), .ref 84, .ref 84, .ref 82] (PT0 LIm_6 LRm_6 M) 2 833 := rfl
def LIm_7 : List (Nat × Nat × Nat × Bool) := [(84, 67, (101, false)), (84, 68, (116, false)), (84, 69, (114, false)), (84, 70, (105, false)), (84, 71, (99, false)), (84, 72, (32, false)), (84, 73, (115, false)), (84, 74, (119, false)), (84, 75, (105, false)), (84, 76, (116, false))]
def LRm_7 : List (Nat × Nat × Nat) := []
set_option maxRecDepth 20000 in
theorem bm_7 (k : Nat → List Value → AM → Nat → Nat → Option (Nat × List Value × AM × Nat × Nat)) (M : AM) : bP (lv_args 0 ([82].map Value.ref)) FLc_Mo NLc_Mo [] 10 45 7966 k Ec_Mo_7 85 [.int (cI 101), .int (cI 67), .ref 84, .ref 84, .ref 82] M 2 833 = k 85 [.int (cI 99), .int (cI 77), .ref 84, .ref 84, .ref 82] (PT0 LIm_7 LRm_7 M) 2 833 := rfl
def LIm_8 : List (Nat × Nat × Nat × Bool) := [(84, 77, (99, false)), (84, 78, (104, false)), (84, 79, (32, false)), (84, 80, (107, false)), (84, 81, (101, false)), (84, 82, (101, false)), (84, 83, (112, false)), (84, 84, (32, false)), (84, 85, (97, false)), (84, 86, (110, false))]
def LRm_8 : List (Nat × Nat × Nat) := []
set_option maxRecDepth 20000 in
theorem bm_8 (k : Nat → List Value → AM → Nat → Nat → Option (Nat × List Value × AM × Nat × Nat)) (M : AM) : bP (lv_args 0 ([82].map Value.ref)) FLc_Mo NLc_Mo [] 10 45 7966 k Ec_Mo_8 85 [.int (cI 99), .int (cI 77), .ref 84, .ref 84, .ref 82] M 2 833 = k 85 [.int (cI 100), .int (cI 87), .ref 84, .ref 84, .ref 82] (PT0 LIm_8 LRm_8 M) 2 833 := rfl
def LIm_9 : List (Nat × Nat × Nat × Bool) := [(84, 87, (100, false)), (84, 88, (32, false)), (84, 89, (111, false)), (84, 90, (114, false)), (84, 91, (32, false)), (84, 92, (110, false)), (84, 93, (111, false)), (84, 94, (116, false)), (84, 95, (32, false)), (84, 96, (102, false))]
def LRm_9 : List (Nat × Nat × Nat) := []
set_option maxRecDepth 20000 in
theorem bm_9 (k : Nat → List Value → AM → Nat → Nat → Option (Nat × List Value × AM × Nat × Nat)) (M : AM) : bP (lv_args 0 ([82].map Value.ref)) FLc_Mo NLc_Mo [] 10 45 7966 k Ec_Mo_9 85 [.int (cI 100), .int (cI 87), .ref 84, .ref 84, .ref 82] M 2 833 = k 85 [.int (cI 97), .int (cI 97), .ref 84, .ref 84, .ref 82] (PT0 LIm_9 LRm_9 M) 2 833 := rfl
def LIm_10 : List (Nat × Nat × Nat × Bool) := [(84, 97, (97, false)), (84, 98, (114, false)), (84, 99, (32, false)), (84, 100, (112, false)), (84, 101, (108, false)), (84, 102, (97, false)), (84, 103, (99, false)), (84, 104, (101, false)), (84, 105, (32, false)), (84, 106, (104, false))]
def LRm_10 : List (Nat × Nat × Nat) := []
set_option maxRecDepth 20000 in
theorem bm_10 (k : Nat → List Value → AM → Nat → Nat → Option (Nat × List Value × AM × Nat × Nat)) (M : AM) : bP (lv_args 0 ([82].map Value.ref)) FLc_Mo NLc_Mo [] 10 45 7966 k Ec_Mo_10 85 [.int (cI 97), .int (cI 97), .ref 84, .ref 84, .ref 82] M 2 833 = k 85 [.int (cI 101), .int (cI 107), .ref 84, .ref 84, .ref 82] (PT0 LIm_10 LRm_10 M) 2 833 := rfl
def LIm_11 : List (Nat × Nat × Nat × Bool) := [(84, 107, (101, false)), (84, 108, (97, false)), (84, 109, (114, false)), (84, 110, (100, false)), (84, 111, (32, false)), (84, 112, (116, false)), (84, 113, (119, false)), (84, 114, (105, false)), (84, 115, (99, false)), (84, 116, (101, false))]
def LRm_11 : List (Nat × Nat × Nat) := []
set_option maxRecDepth 20000 in
theorem bm_11 (k : Nat → List Value → AM → Nat → Nat → Option (Nat × List Value × AM × Nat × Nat)) (M : AM) : bP (lv_args 0 ([82].map Value.ref)) FLc_Mo NLc_Mo [] 10 45 7966 k Ec_Mo_11 85 [.int (cI 101), .int (cI 107), .ref 84, .ref 84, .ref 82] M 2 833 = k 85 [.int (cI 32), .int (cI 117), .ref 84, .ref 84, .ref 82] (PT0 LIm_11 LRm_11 M) 2 833 := rfl
def LIm_12 : List (Nat × Nat × Nat × Bool) := [(84, 117, (32, false)), (84, 118, (104, false)), (84, 119, (101, false)), (84, 120, (108, false)), (84, 121, (100, false)), (84, 122, (32, false)), (84, 123, (116, false)), (84, 124, (114, false)), (84, 125, (101, false)), (84, 126, (101, false))]
def LRm_12 : List (Nat × Nat × Nat) := []
set_option maxRecDepth 20000 in
theorem bm_12 (k : Nat → List Value → AM → Nat → Nat → Option (Nat × List Value × AM × Nat × Nat)) (M : AM) : bP (lv_args 0 ([82].map Value.ref)) FLc_Mo NLc_Mo [] 10 45 7966 k Ec_Mo_12 85 [.int (cI 32), .int (cI 117), .ref 84, .ref 84, .ref 82] M 2 833 = k 85 [.int (cI 32), .int (cI 127), .ref 84, .ref 84, .ref 82] (PT0 LIm_12 LRm_12 M) 2 833 := rfl
def LIm_13 : List (Nat × Nat × Nat × Bool) := [(84, 127, (32, false)), (84, 128, (116, false)), (84, 129, (105, false)), (84, 130, (99, false)), (84, 131, (107, false)), (84, 132, (32, false)), (82, 5, (1, true))]
def LRm_13 : List (Nat × Nat × Nat) := [(82, 3, 84), (82, 24, 85), (82, 25, 86), (82, 26, 87)]
set_option maxRecDepth 20000 in
theorem bm_13 (k : Nat → List Value → AM → Nat → Nat → Option (Nat × List Value × AM × Nat × Nat)) (M : AM) : bP (lv_args 0 ([82].map Value.ref)) FLc_Mo NLc_Mo [] 10 45 7966 k Ec_Mo_13 85 [.int (cI 32), .int (cI 127), .ref 84, .ref 84, .ref 82] M 2 833 = k 89 [.ref 88, .ref 82] (PT0 LIm_13 LRm_13 M) 6 858 := rfl
def LIm_14 : List (Nat × Nat × Nat × Bool) := []
def LRm_14 : List (Nat × Nat × Nat) := [(82, 27, 88), (82, 28, 89), (82, 29, 90), (82, 30, 91), (82, 31, 92), (82, 32, 93), (82, 33, 94), (82, 34, 95), (82, 35, 96), (82, 36, 97)]
set_option maxRecDepth 20000 in
theorem bm_14 (k : Nat → List Value → AM → Nat → Nat → Option (Nat × List Value × AM × Nat × Nat)) (M : AM) : bP (lv_args 0 ([82].map Value.ref)) FLc_Mo NLc_Mo [] 10 45 7966 k Ec_Mo_14 89 [.ref 88, .ref 82] M 6 858 = k 99 [.ref 98, .ref 82] (PT0 LIm_14 LRm_14 M) 16 1060 := rfl
def LIm_15 : List (Nat × Nat × Nat × Bool) := []
def LRm_15 : List (Nat × Nat × Nat) := [(82, 37, 98), (82, 38, 99), (82, 39, 100), (82, 40, 101), (82, 41, 102), (82, 42, 103), (82, 43, 104), (82, 44, 105), (82, 51, 106), (82, 52, 107)]
set_option maxRecDepth 20000 in
theorem bm_15 (k : Nat → List Value → AM → Nat → Nat → Option (Nat × List Value × AM × Nat × Nat)) (M : AM) : bP (lv_args 0 ([82].map Value.ref)) FLc_Mo NLc_Mo [] 10 45 7966 k Ec_Mo_15 99 [.ref 98, .ref 82] M 16 1060 = k 109 [.ref 108, .ref 82] (PT0 LIm_15 LRm_15 M) 26 1721 := rfl
def LIm_16 : List (Nat × Nat × Nat × Bool) := []
def LRm_16 : List (Nat × Nat × Nat) := [(82, 54, 108), (82, 55, 109), (82, 56, 110), (82, 57, 111), (82, 58, 112), (82, 59, 113), (82, 60, 114), (82, 61, 115), (82, 62, 116), (82, 63, 117)]
set_option maxRecDepth 20000 in
theorem bm_16 (k : Nat → List Value → AM → Nat → Nat → Option (Nat × List Value × AM × Nat × Nat)) (M : AM) : bP (lv_args 0 ([82].map Value.ref)) FLc_Mo NLc_Mo [] 10 45 7966 k Ec_Mo_16 109 [.ref 108, .ref 82] M 26 1721 = k 119 [.ref 118, .ref 82] (PT0 LIm_16 LRm_16 M) 36 2227 := rfl
def LIm_17 : List (Nat × Nat × Nat × Bool) := [(82, 81, (1, true))]
def LRm_17 : List (Nat × Nat × Nat) := [(82, 64, 118), (82, 75, 119), (82, 77, 120), (82, 78, 121), (82, 79, 122), (82, 82, 123), (82, 83, 124), (82, 84, 125), (82, 86, 126), (82, 88, 127)]
set_option maxRecDepth 20000 in
theorem bm_17 (k : Nat → List Value → AM → Nat → Nat → Option (Nat × List Value × AM × Nat × Nat)) (M : AM) : bP (lv_args 0 ([82].map Value.ref)) FLc_Mo NLc_Mo [] 10 45 7966 k Ec_Mo_17 119 [.ref 118, .ref 82] M 36 2227 = k 128 [] (PT0 LIm_17 LRm_17 M) 45 7966 := rfl
theorem M1_Mo_eq (M : AM) : M1_Mo M = PT0 LIm_17 LRm_17 (PT0 LIm_16 LRm_16 (PT0 LIm_15 LRm_15 (PT0 LIm_14 LRm_14 (PT0 LIm_13 LRm_13 (PT0 LIm_12 LRm_12 (PT0 LIm_11 LRm_11 (PT0 LIm_10 LRm_10 (PT0 LIm_9 LRm_9 (PT0 LIm_8 LRm_8 (PT0 LIm_7 LRm_7 (PT0 LIm_6 LRm_6 (PT0 LIm_5 LRm_5 (PT0 LIm_4 LRm_4 (PT0 LIm_3 LRm_3 (PT0 LIm_2 LRm_2 (PT0 LIm_1 LRm_1 (PT0 LIm_0 LRm_0 (M)))))))))))))))))) := by
  have h := run_Mo M
  unfold Ec_Mo at h
  rw [bP_app, bm_0] at h
  rw [bP_app, bm_1] at h
  rw [bP_app, bm_2] at h
  rw [bP_app, bm_3] at h
  rw [bP_app, bm_4] at h
  rw [bP_app, bm_5] at h
  rw [bP_app, bm_6] at h
  rw [bP_app, bm_7] at h
  rw [bP_app, bm_8] at h
  rw [bP_app, bm_9] at h
  rw [bP_app, bm_10] at h
  rw [bP_app, bm_11] at h
  rw [bP_app, bm_12] at h
  rw [bP_app, bm_13] at h
  rw [bP_app, bm_14] at h
  rw [bP_app, bm_15] at h
  rw [bP_app, bm_16] at h
  rw [bm_17] at h
  unfold bE at h
  simp only [Option.some.injEq, Prod.mk.injEq] at h
  exact h.2.2.1.symm

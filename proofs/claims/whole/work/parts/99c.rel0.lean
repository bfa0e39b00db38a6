/-! the two memories at the start, and their relation -/
abbrev LF (G : gG) : List va_E := [ob 9 [.ref (G.2.1 + 1), .ref (G.2.1 + 65), .ref (G.2.1 + 69), .ref (G.2.1 + 70), .ref (G.2.1 + 64), .int 0, .int 0, .ref (G.2.1 + 22), .int 0, .ref (G.2.1 + 43), .int 0], ob 6 [.ref (G.2.1 + 2), .ref (G.2.1 + 6), .ref (G.2.1 + 12), .ref (G.2.1 + 14), .ref (G.2.1 + 17), .ref (G.2.1 + 20), .ref (G.2.1 + 21)], ob 2 [.int 256, .int 0, .int 0, .int 0, .ref (G.2.1 + 3), .ref (G.2.1 + 4), .ref (G.2.1 + 5)], ai G 4000 (fun j => if 0 ≤ j ∧ j < 0 then 0 else (fun _ => 0) j), ai G 500 (fun _ => (-1)), ai G 500 (fun _ => 0), ob 3 [.int 0, .int 0, .int 0, .int 0, .ref (G.2.1 + 7), .ref (G.2.1 + 8), .ref (G.2.1 + 9), .ref (G.2.1 + 10), .ref (G.2.1 + 11)], ai G 500 (fun _ => 0), ai G 500 (fun _ => 0), ai G 500 (fun _ => 0), ai G 500 (fun _ => 0), ai G 500 (fun _ => 0), ob 8 [.int 0, .int 0, .int 0, .int 0, .int 0, .int 0, .ref (G.2.1 + 13)], ai G 300 (fun _ => 0), ob 4 [.int 0, .ref (G.2.1 + 15), .ref (G.2.1 + 16)], ai G 6527 (fun _ => 0), ai G 6527 (fun _ => 0), ob 5 [.int 0, .int 0, .int 0, .int 0, .ref (G.2.1 + 18), .ref (G.2.1 + 19)], ai G 200 (fun _ => 0), ai G 8 (fun _ => (-1)), ai G 24 (fun _ => (-1)), ai G 32 (fun _ => (-1)), ob 6 [.ref (G.2.1 + 23), .ref (G.2.1 + 27), .ref (G.2.1 + 33), .ref (G.2.1 + 35), .ref (G.2.1 + 38), .ref (G.2.1 + 41), .ref (G.2.1 + 42)], ob 2 [.int 256, .int 0, .int 0, .int 0, .ref (G.2.1 + 24), .ref (G.2.1 + 25), .ref (G.2.1 + 26)], ai G 4000 (fun j => if 0 ≤ j ∧ j < 0 then 0 else (fun _ => 0) j), ai G 500 (fun _ => (-1)), ai G 500 (fun _ => 0), ob 3 [.int 0, .int 0, .int 0, .int 0, .ref (G.2.1 + 28), .ref (G.2.1 + 29), .ref (G.2.1 + 30), .ref (G.2.1 + 31), .ref (G.2.1 + 32)], ai G 500 (fun _ => 0), ai G 500 (fun _ => 0), ai G 500 (fun _ => 0), ai G 500 (fun _ => 0), ai G 500 (fun _ => 0), ob 8 [.int 0, .int 0, .int 0, .int 0, .int 0, .int 0, .ref (G.2.1 + 34)], ai G 300 (fun _ => 0), ob 4 [.int 0, .ref (G.2.1 + 36), .ref (G.2.1 + 37)], ai G 6527 (fun _ => 0), ai G 6527 (fun _ => 0), ob 5 [.int 0, .int 0, .int 0, .int 0, .ref (G.2.1 + 39), .ref (G.2.1 + 40)], ai G 200 (fun _ => 0), ai G 8 (fun _ => (-1)), ai G 24 (fun _ => (-1)), ai G 32 (fun _ => (-1)), ob 6 [.ref (G.2.1 + 44), .ref (G.2.1 + 48), .ref (G.2.1 + 54), .ref (G.2.1 + 56), .ref (G.2.1 + 59), .ref (G.2.1 + 62), .ref (G.2.1 + 63)], ob 2 [.int 256, .int 0, .int 0, .int 0, .ref (G.2.1 + 45), .ref (G.2.1 + 46), .ref (G.2.1 + 47)], ai G 4000 (fun j => if 0 ≤ j ∧ j < 0 then 0 else (fun _ => 0) j), ai G 500 (fun _ => (-1)), ai G 500 (fun _ => 0), ob 3 [.int 0, .int 0, .int 0, .int 0, .ref (G.2.1 + 49), .ref (G.2.1 + 50), .ref (G.2.1 + 51), .ref (G.2.1 + 52), .ref (G.2.1 + 53)], ai G 500 (fun _ => 0), ai G 500 (fun _ => 0), ai G 500 (fun _ => 0), ai G 500 (fun _ => 0), ai G 500 (fun _ => 0), ob 8 [.int 0, .int 0, .int 0, .int 0, .int 0, .int 0, .ref (G.2.1 + 55)], ai G 300 (fun _ => 0), ob 4 [.int 0, .ref (G.2.1 + 57), .ref (G.2.1 + 58)], ai G 6527 (fun _ => 0), ai G 6527 (fun _ => 0), ob 5 [.int 0, .int 0, .int 0, .int 0, .ref (G.2.1 + 60), .ref (G.2.1 + 61)], ai G 200 (fun _ => 0), ai G 8 (fun _ => (-1)), ai G 24 (fun _ => (-1)), ai G 32 (fun _ => (-1)), ai G 14 (fun _ => 0), ob 7 [.ref (G.2.1 + 1), .ref (G.2.1 + 2), .ref (G.2.1 + 6), .ref (G.2.1 + 64), .ref (G.2.1 + 66), .int 0, .ref (G.2.1 + 67), .ref (G.2.1 + 68), .int 0], ai G 500 (fun _ => 0), ai G 500 (fun _ => 0), ai G 500 (fun _ => 0), ob 0 [.ref (G.2.1 + 1), .ref (G.2.1 + 2), .ref (G.2.1 + 65), .int 0], ob 1 [.ref (G.2.1 + 71), .int 0, .int 0, .ref (G.2.1 + 72), .ref (G.2.1 + 73)], ai G 0 (fun _ => 0), ai G 500 (fun _ => 0), ai G 501 (fun _ => 0), ob 10 [.ref (G.2.1 + 75), .ref (G.2.1 + 76), .ref (G.2.1 + 77), .int 0, .int 0, .int 0, .int 0, .int 0, .ref (G.2.1 + 78), .ref (G.2.1 + 79), .ref (G.2.1 + 80), .ref (G.2.1 + 81), .int 0, .ref (G.2.1 + 82), .int 0, .ref (G.2.1 + 83)], ai G 26100 (sx 256), ai G 26100 (fun _ => 0), ai G 26100 (fun _ => 0), ai G 14 (fun _ => 0), ai G 500 (fun _ => 0), ai G 500 (fun _ => 0), az G 500 (fun _ => 0), ai G 501 (fun _ => 0), ai G 500 (fun _ => 0)]
def c0L : List (Nat → Int32) := [fun _ => 0, fun _ => 0, fun j => if j = 0 then 256 else 0, fun j => if 0 ≤ j ∧ j < 0 then 0 else (fun _ => 0) j, fun _ => (-1), fun _ => 0, fun _ => 0, fun _ => 0, fun _ => 0, fun _ => 0, fun _ => 0, fun _ => 0, fun _ => 0, fun _ => 0, fun _ => 0, fun _ => 0, fun _ => 0, fun _ => 0, fun _ => 0, fun _ => (-1), fun _ => (-1), fun _ => (-1), fun _ => 0, fun j => if j = 0 then 256 else 0, fun j => if 0 ≤ j ∧ j < 0 then 0 else (fun _ => 0) j, fun _ => (-1), fun _ => 0, fun _ => 0, fun _ => 0, fun _ => 0, fun _ => 0, fun _ => 0, fun _ => 0, fun _ => 0, fun _ => 0, fun _ => 0, fun _ => 0, fun _ => 0, fun _ => 0, fun _ => 0, fun _ => (-1), fun _ => (-1), fun _ => (-1), fun _ => 0, fun j => if j = 0 then 256 else 0, fun j => if 0 ≤ j ∧ j < 0 then 0 else (fun _ => 0) j, fun _ => (-1), fun _ => 0, fun _ => 0, fun _ => 0, fun _ => 0, fun _ => 0, fun _ => 0, fun _ => 0, fun _ => 0, fun _ => 0, fun _ => 0, fun _ => 0, fun _ => 0, fun _ => 0, fun _ => 0, fun _ => (-1), fun _ => (-1), fun _ => (-1), fun _ => 0, fun _ => 0, fun _ => 0, fun _ => 0, fun _ => 0, fun _ => 0, fun _ => 0, fun _ => 0, fun _ => 0, fun _ => 0]
def c0 : gMem := fun i => (c0L[i]?).getD (fun _ => 0)
def m0 : gMem := fun i => (([fun _ => 0, sx 256] : List (Nat → Int32))[i]?).getD (fun _ => 0)
set_option maxRecDepth 100000 in
theorem w0_eq {G : gG} : ∀ i, i < 84 → wl G.2.1 (LF G) (G.2.1 + i) = wX G m0 c0 (G.2.1 + i) := fun i hi => match i, hi with
  | 0, _ => (wl_at (i := 0) (e := cell_ G 0 (c0 0)) rfl).trans (wX_at (G := G) (o := m0) (c := c0) (i := 0) (by decide)).symm
  | 1, _ => (wl_at (i := 1) (e := cell_ G 1 (c0 1)) rfl).trans (wX_at (G := G) (o := m0) (c := c0) (i := 1) (by decide)).symm
  | 2, _ => (wl_at (i := 2) (e := cell_ G 2 (c0 2)) rfl).trans (wX_at (G := G) (o := m0) (c := c0) (i := 2) (by decide)).symm
  | 3, _ => (wl_at (i := 3) (e := cell_ G 3 (c0 3)) rfl).trans (wX_at (G := G) (o := m0) (c := c0) (i := 3) (by decide)).symm
  | 4, _ => (wl_at (i := 4) (e := cell_ G 4 (c0 4)) rfl).trans (wX_at (G := G) (o := m0) (c := c0) (i := 4) (by decide)).symm
  | 5, _ => (wl_at (i := 5) (e := cell_ G 5 (c0 5)) rfl).trans (wX_at (G := G) (o := m0) (c := c0) (i := 5) (by decide)).symm
  | 6, _ => (wl_at (i := 6) (e := cell_ G 6 (c0 6)) rfl).trans (wX_at (G := G) (o := m0) (c := c0) (i := 6) (by decide)).symm
  | 7, _ => (wl_at (i := 7) (e := cell_ G 7 (c0 7)) rfl).trans (wX_at (G := G) (o := m0) (c := c0) (i := 7) (by decide)).symm
  | 8, _ => (wl_at (i := 8) (e := cell_ G 8 (c0 8)) rfl).trans (wX_at (G := G) (o := m0) (c := c0) (i := 8) (by decide)).symm
  | 9, _ => (wl_at (i := 9) (e := cell_ G 9 (c0 9)) rfl).trans (wX_at (G := G) (o := m0) (c := c0) (i := 9) (by decide)).symm
  | 10, _ => (wl_at (i := 10) (e := cell_ G 10 (c0 10)) rfl).trans (wX_at (G := G) (o := m0) (c := c0) (i := 10) (by decide)).symm
  | 11, _ => (wl_at (i := 11) (e := cell_ G 11 (c0 11)) rfl).trans (wX_at (G := G) (o := m0) (c := c0) (i := 11) (by decide)).symm
  | 12, _ => (wl_at (i := 12) (e := cell_ G 12 (c0 12)) rfl).trans (wX_at (G := G) (o := m0) (c := c0) (i := 12) (by decide)).symm
  | 13, _ => (wl_at (i := 13) (e := cell_ G 13 (c0 13)) rfl).trans (wX_at (G := G) (o := m0) (c := c0) (i := 13) (by decide)).symm
  | 14, _ => (wl_at (i := 14) (e := cell_ G 14 (c0 14)) rfl).trans (wX_at (G := G) (o := m0) (c := c0) (i := 14) (by decide)).symm
  | 15, _ => (wl_at (i := 15) (e := cell_ G 15 (c0 15)) rfl).trans (wX_at (G := G) (o := m0) (c := c0) (i := 15) (by decide)).symm
  | 16, _ => (wl_at (i := 16) (e := cell_ G 16 (c0 16)) rfl).trans (wX_at (G := G) (o := m0) (c := c0) (i := 16) (by decide)).symm
  | 17, _ => (wl_at (i := 17) (e := cell_ G 17 (c0 17)) rfl).trans (wX_at (G := G) (o := m0) (c := c0) (i := 17) (by decide)).symm
  | 18, _ => (wl_at (i := 18) (e := cell_ G 18 (c0 18)) rfl).trans (wX_at (G := G) (o := m0) (c := c0) (i := 18) (by decide)).symm
  | 19, _ => (wl_at (i := 19) (e := cell_ G 19 (c0 19)) rfl).trans (wX_at (G := G) (o := m0) (c := c0) (i := 19) (by decide)).symm
  | 20, _ => (wl_at (i := 20) (e := cell_ G 20 (c0 20)) rfl).trans (wX_at (G := G) (o := m0) (c := c0) (i := 20) (by decide)).symm
  | 21, _ => (wl_at (i := 21) (e := cell_ G 21 (c0 21)) rfl).trans (wX_at (G := G) (o := m0) (c := c0) (i := 21) (by decide)).symm
  | 22, _ => (wl_at (i := 22) (e := cell_ G 22 (c0 22)) rfl).trans (wX_at (G := G) (o := m0) (c := c0) (i := 22) (by decide)).symm
  | 23, _ => (wl_at (i := 23) (e := cell_ G 23 (c0 23)) rfl).trans (wX_at (G := G) (o := m0) (c := c0) (i := 23) (by decide)).symm
  | 24, _ => (wl_at (i := 24) (e := cell_ G 24 (c0 24)) rfl).trans (wX_at (G := G) (o := m0) (c := c0) (i := 24) (by decide)).symm
  | 25, _ => (wl_at (i := 25) (e := cell_ G 25 (c0 25)) rfl).trans (wX_at (G := G) (o := m0) (c := c0) (i := 25) (by decide)).symm
  | 26, _ => (wl_at (i := 26) (e := cell_ G 26 (c0 26)) rfl).trans (wX_at (G := G) (o := m0) (c := c0) (i := 26) (by decide)).symm
  | 27, _ => (wl_at (i := 27) (e := cell_ G 27 (c0 27)) rfl).trans (wX_at (G := G) (o := m0) (c := c0) (i := 27) (by decide)).symm
  | 28, _ => (wl_at (i := 28) (e := cell_ G 28 (c0 28)) rfl).trans (wX_at (G := G) (o := m0) (c := c0) (i := 28) (by decide)).symm
  | 29, _ => (wl_at (i := 29) (e := cell_ G 29 (c0 29)) rfl).trans (wX_at (G := G) (o := m0) (c := c0) (i := 29) (by decide)).symm
  | 30, _ => (wl_at (i := 30) (e := cell_ G 30 (c0 30)) rfl).trans (wX_at (G := G) (o := m0) (c := c0) (i := 30) (by decide)).symm
  | 31, _ => (wl_at (i := 31) (e := cell_ G 31 (c0 31)) rfl).trans (wX_at (G := G) (o := m0) (c := c0) (i := 31) (by decide)).symm
  | 32, _ => (wl_at (i := 32) (e := cell_ G 32 (c0 32)) rfl).trans (wX_at (G := G) (o := m0) (c := c0) (i := 32) (by decide)).symm
  | 33, _ => (wl_at (i := 33) (e := cell_ G 33 (c0 33)) rfl).trans (wX_at (G := G) (o := m0) (c := c0) (i := 33) (by decide)).symm
  | 34, _ => (wl_at (i := 34) (e := cell_ G 34 (c0 34)) rfl).trans (wX_at (G := G) (o := m0) (c := c0) (i := 34) (by decide)).symm
  | 35, _ => (wl_at (i := 35) (e := cell_ G 35 (c0 35)) rfl).trans (wX_at (G := G) (o := m0) (c := c0) (i := 35) (by decide)).symm
  | 36, _ => (wl_at (i := 36) (e := cell_ G 36 (c0 36)) rfl).trans (wX_at (G := G) (o := m0) (c := c0) (i := 36) (by decide)).symm
  | 37, _ => (wl_at (i := 37) (e := cell_ G 37 (c0 37)) rfl).trans (wX_at (G := G) (o := m0) (c := c0) (i := 37) (by decide)).symm
  | 38, _ => (wl_at (i := 38) (e := cell_ G 38 (c0 38)) rfl).trans (wX_at (G := G) (o := m0) (c := c0) (i := 38) (by decide)).symm
  | 39, _ => (wl_at (i := 39) (e := cell_ G 39 (c0 39)) rfl).trans (wX_at (G := G) (o := m0) (c := c0) (i := 39) (by decide)).symm
  | 40, _ => (wl_at (i := 40) (e := cell_ G 40 (c0 40)) rfl).trans (wX_at (G := G) (o := m0) (c := c0) (i := 40) (by decide)).symm
  | 41, _ => (wl_at (i := 41) (e := cell_ G 41 (c0 41)) rfl).trans (wX_at (G := G) (o := m0) (c := c0) (i := 41) (by decide)).symm
  | 42, _ => (wl_at (i := 42) (e := cell_ G 42 (c0 42)) rfl).trans (wX_at (G := G) (o := m0) (c := c0) (i := 42) (by decide)).symm
  | 43, _ => (wl_at (i := 43) (e := cell_ G 43 (c0 43)) rfl).trans (wX_at (G := G) (o := m0) (c := c0) (i := 43) (by decide)).symm
  | 44, _ => (wl_at (i := 44) (e := cell_ G 44 (c0 44)) rfl).trans (wX_at (G := G) (o := m0) (c := c0) (i := 44) (by decide)).symm
  | 45, _ => (wl_at (i := 45) (e := cell_ G 45 (c0 45)) rfl).trans (wX_at (G := G) (o := m0) (c := c0) (i := 45) (by decide)).symm
  | 46, _ => (wl_at (i := 46) (e := cell_ G 46 (c0 46)) rfl).trans (wX_at (G := G) (o := m0) (c := c0) (i := 46) (by decide)).symm
  | 47, _ => (wl_at (i := 47) (e := cell_ G 47 (c0 47)) rfl).trans (wX_at (G := G) (o := m0) (c := c0) (i := 47) (by decide)).symm
  | 48, _ => (wl_at (i := 48) (e := cell_ G 48 (c0 48)) rfl).trans (wX_at (G := G) (o := m0) (c := c0) (i := 48) (by decide)).symm
  | 49, _ => (wl_at (i := 49) (e := cell_ G 49 (c0 49)) rfl).trans (wX_at (G := G) (o := m0) (c := c0) (i := 49) (by decide)).symm
  | 50, _ => (wl_at (i := 50) (e := cell_ G 50 (c0 50)) rfl).trans (wX_at (G := G) (o := m0) (c := c0) (i := 50) (by decide)).symm
  | 51, _ => (wl_at (i := 51) (e := cell_ G 51 (c0 51)) rfl).trans (wX_at (G := G) (o := m0) (c := c0) (i := 51) (by decide)).symm
  | 52, _ => (wl_at (i := 52) (e := cell_ G 52 (c0 52)) rfl).trans (wX_at (G := G) (o := m0) (c := c0) (i := 52) (by decide)).symm
  | 53, _ => (wl_at (i := 53) (e := cell_ G 53 (c0 53)) rfl).trans (wX_at (G := G) (o := m0) (c := c0) (i := 53) (by decide)).symm
  | 54, _ => (wl_at (i := 54) (e := cell_ G 54 (c0 54)) rfl).trans (wX_at (G := G) (o := m0) (c := c0) (i := 54) (by decide)).symm
  | 55, _ => (wl_at (i := 55) (e := cell_ G 55 (c0 55)) rfl).trans (wX_at (G := G) (o := m0) (c := c0) (i := 55) (by decide)).symm
  | 56, _ => (wl_at (i := 56) (e := cell_ G 56 (c0 56)) rfl).trans (wX_at (G := G) (o := m0) (c := c0) (i := 56) (by decide)).symm
  | 57, _ => (wl_at (i := 57) (e := cell_ G 57 (c0 57)) rfl).trans (wX_at (G := G) (o := m0) (c := c0) (i := 57) (by decide)).symm
  | 58, _ => (wl_at (i := 58) (e := cell_ G 58 (c0 58)) rfl).trans (wX_at (G := G) (o := m0) (c := c0) (i := 58) (by decide)).symm
  | 59, _ => (wl_at (i := 59) (e := cell_ G 59 (c0 59)) rfl).trans (wX_at (G := G) (o := m0) (c := c0) (i := 59) (by decide)).symm
  | 60, _ => (wl_at (i := 60) (e := cell_ G 60 (c0 60)) rfl).trans (wX_at (G := G) (o := m0) (c := c0) (i := 60) (by decide)).symm
  | 61, _ => (wl_at (i := 61) (e := cell_ G 61 (c0 61)) rfl).trans (wX_at (G := G) (o := m0) (c := c0) (i := 61) (by decide)).symm
  | 62, _ => (wl_at (i := 62) (e := cell_ G 62 (c0 62)) rfl).trans (wX_at (G := G) (o := m0) (c := c0) (i := 62) (by decide)).symm
  | 63, _ => (wl_at (i := 63) (e := cell_ G 63 (c0 63)) rfl).trans (wX_at (G := G) (o := m0) (c := c0) (i := 63) (by decide)).symm
  | 64, _ => (wl_at (i := 64) (e := cell_ G 64 (c0 64)) rfl).trans (wX_at (G := G) (o := m0) (c := c0) (i := 64) (by decide)).symm
  | 65, _ => (wl_at (i := 65) (e := cell_ G 65 (c0 65)) rfl).trans (wX_at (G := G) (o := m0) (c := c0) (i := 65) (by decide)).symm
  | 66, _ => (wl_at (i := 66) (e := cell_ G 66 (c0 66)) rfl).trans (wX_at (G := G) (o := m0) (c := c0) (i := 66) (by decide)).symm
  | 67, _ => (wl_at (i := 67) (e := cell_ G 67 (c0 67)) rfl).trans (wX_at (G := G) (o := m0) (c := c0) (i := 67) (by decide)).symm
  | 68, _ => (wl_at (i := 68) (e := cell_ G 68 (c0 68)) rfl).trans (wX_at (G := G) (o := m0) (c := c0) (i := 68) (by decide)).symm
  | 69, _ => (wl_at (i := 69) (e := cell_ G 69 (c0 69)) rfl).trans (wX_at (G := G) (o := m0) (c := c0) (i := 69) (by decide)).symm
  | 70, _ => (wl_at (i := 70) (e := cell_ G 70 (c0 70)) rfl).trans (wX_at (G := G) (o := m0) (c := c0) (i := 70) (by decide)).symm
  | 71, _ => (wl_at (i := 71) (e := cell_ G 71 (c0 71)) rfl).trans (wX_at (G := G) (o := m0) (c := c0) (i := 71) (by decide)).symm
  | 72, _ => (wl_at (i := 72) (e := cell_ G 72 (c0 72)) rfl).trans (wX_at (G := G) (o := m0) (c := c0) (i := 72) (by decide)).symm
  | 73, _ => (wl_at (i := 73) (e := cell_ G 73 (c0 73)) rfl).trans (wX_at (G := G) (o := m0) (c := c0) (i := 73) (by decide)).symm
  | 74, _ => (wl_at (i := 74) (e := cell_ G 74 (m0 0)) rfl).trans (wM_at (G := G) (o := c0) (c := m0) (i := 0)).symm
  | 75, _ => (wl_at (i := 75) (e := cell_ G 75 (m0 1)) rfl).trans (wM_at (G := G) (o := c0) (c := m0) (i := 1)).symm
  | 76, _ => (wl_at (i := 76) (e := cell_ G 76 (m0 2)) rfl).trans (wM_at (G := G) (o := c0) (c := m0) (i := 2)).symm
  | 77, _ => (wl_at (i := 77) (e := cell_ G 77 (m0 3)) rfl).trans (wM_at (G := G) (o := c0) (c := m0) (i := 3)).symm
  | 78, _ => (wl_at (i := 78) (e := cell_ G 78 (m0 4)) rfl).trans (wM_at (G := G) (o := c0) (c := m0) (i := 4)).symm
  | 79, _ => (wl_at (i := 79) (e := cell_ G 79 (m0 5)) rfl).trans (wM_at (G := G) (o := c0) (c := m0) (i := 5)).symm
  | 80, _ => (wl_at (i := 80) (e := cell_ G 80 (m0 6)) rfl).trans (wM_at (G := G) (o := c0) (c := m0) (i := 6)).symm
  | 81, _ => (wl_at (i := 81) (e := cell_ G 81 (m0 7)) rfl).trans (wM_at (G := G) (o := c0) (c := m0) (i := 7)).symm
  | 82, _ => (wl_at (i := 82) (e := cell_ G 82 (m0 8)) rfl).trans (wM_at (G := G) (o := c0) (c := m0) (i := 8)).symm
  | 83, _ => (wl_at (i := 83) (e := cell_ G 83 (m0 9)) rfl).trans (wM_at (G := G) (o := c0) (c := m0) (i := 9)).symm
  | q + 84, h => absurd h (by omega)
theorem c0_w (k : Nat) : (if 0 ≤ k ∧ k < 0 then (0 : Int32) else (fun _ => 0) k) = 0 := by rw [if_neg (by omega)]
theorem frC0 : frC 256 1 c0 := ⟨by decide, by decide, by decide, by decide, fun k _ => c0_w k, fun _ _ => rfl, fun _ _ => rfl, fun _ _ => rfl, rfl, fun _ _ => rfl, fun _ _ => rfl, fun _ _ => rfl, fun _ _ => rfl⟩
theorem frS0 : frS 256 (m0 1) := by
  refine ⟨by decide, fun k h1 h2 => ?_, fun k h1 h2 h3 => ?_⟩
  · show sx 256 k = -1
    unfold sx; rw [if_neg (by omega), if_pos ⟨h1, h2⟩]
  · show sx 256 k = 0
    unfold sx; rw [if_neg (by omega), if_neg h3]
theorem rel0 : Rel (200000 * 0) c0 m0 := ⟨⟨fr_SR frS0 frC0, fr_SI (by decide) (by decide) frS0⟩, rfl, rfl, rfl, fun _ _ => rfl, ⟨rfl, ⟨0, by decide, by decide, fun k _ _ => c0_w k⟩, Or.inl rfl⟩, ⟨rfl, ⟨0, by decide, by decide, fun k _ _ => c0_w k⟩, Or.inl rfl⟩⟩

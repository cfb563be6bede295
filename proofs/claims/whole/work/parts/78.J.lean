def zJ (k ax am : Nat) (M1 M2 : zM) : Prop := zT M1 ax = some (8, 6) ∧ zT M2 am = some (9, 40)
theorem zJ_x {k ax am : Nat} {M1 M2 : zM} (h : zJ k ax am M1 M2) : zT M1 ax = some (8, 6) := h.1
theorem zJ_m {k ax am : Nat} {M1 M2 : zM} (h : zJ k ax am M1 M2) : zT M2 am = some (9, 40) := h.2
theorem zJ_skip {k ax am : Nat} {M1 M2 : zM} (h : zJ k ax am M1 M2) (hk : k < 512) : zJ (k + 1) ax am M1 M2 := h

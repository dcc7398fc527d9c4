-- the runs, computed by the kernel: from the loop's head on, by the first int's last six bits and bounds of the second one
def xbx : List (Int × Int) := [(-2147483648, -1), (0, 0), (1, 7), (8, 39), (40, 47), (48, 200), (201, 2147483647)]
def xbx1 : List (Int × Int) := [(-2147483648, 2147483647)]
noncomputable def xph2 (G : XG) (q : Option XR) : Bool := match q with
  | some (kd, pc, ls, st, h) => cond (Nat.beq kd 3) (match xgo G 1000000 30 0 (xseek (xr_get xcode 0) pc) ls st h with
    | some (k2, _, _, [.int x], h2) => Nat.beq k2 0 && x_eq x 1 && Nat.ble h2.2.1 600000 && Nat.ble h2.2.2.1 7300000
    | _ => false) false
  | none => false
def xops : Nat → List (Int × Int)
  | 1 => xbx
  | 4 => xbx
  | 5 => xbx
  | 6 => xbx
  | 18 => xbx
  | 19 => xbx
  | 20 => xbx
  | 22 => xbx
  | 23 => xbx
  | 26 => xbx
  | 27 => xbx
  | 31 => xbx
  | 32 => xbx
  | 33 => xbx
  | 34 => xbx
  | 35 => xbx
  | 36 => xbx
  | 37 => xbx
  | 38 => xbx
  | 39 => xbx
  | 40 => xbx
  | 41 => xbx
  | 42 => xbx
  | 43 => xbx
  | 45 => xbx
  | 46 => xbx
  | 47 => xbx
  | 49 => xbx
  | 50 => xbx
  | 51 => xbx
  | 53 => xbx
  | _ => xbx1
noncomputable def xchk (lo n : Nat) : Bool := (List.range n).all (fun i => (xops (lo + i)).all (fun b => xph2 (Int32.ofNat (lo + i), 6, b.1, b.2) xph1))
set_option maxRecDepth 100000 in
theorem xck_0 : xchk 0 2 = true := by decide +kernel
set_option maxRecDepth 100000 in
theorem xck_2 : xchk 2 1 = true := by decide +kernel
set_option maxRecDepth 100000 in
theorem xck_3 : xchk 3 5 = true := by decide +kernel
set_option maxRecDepth 100000 in
theorem xck_8 : xchk 8 14 = true := by decide +kernel
set_option maxRecDepth 100000 in
theorem xck_22 : xchk 22 10 = true := by decide +kernel
set_option maxRecDepth 100000 in
theorem xck_32 : xchk 32 4 = true := by decide +kernel
set_option maxRecDepth 100000 in
theorem xck_36 : xchk 36 4 = true := by decide +kernel
set_option maxRecDepth 100000 in
theorem xck_40 : xchk 40 4 = true := by decide +kernel
set_option maxRecDepth 100000 in
theorem xck_44 : xchk 44 4 = true := by decide +kernel
set_option maxRecDepth 100000 in
theorem xck_48 : xchk 48 4 = true := by decide +kernel
set_option maxRecDepth 100000 in
theorem xck_52 : xchk 52 12 = true := by decide +kernel
set_option maxRecDepth 100000 in
theorem xck_s : (List.range 6).all (fun L => xph2 (0, L, 0, 0) xph1) = true := by decide +kernel

abbrev b287 : ByteArray := prog_23_method_56_code
abbrev b299 : ByteArray := prog_23_method_54_code
abbrev b297 : ByteArray := prog_23_method_55_code
abbrev b295 : ByteArray := prog_23_method_79_code
abbrev b293 : ByteArray := prog_23_method_66_code
abbrev b300 : ByteArray := prog_23_method_92_code
abbrev b302 : ByteArray := prog_24_method_14_code
abbrev b303 : ByteArray := prog_24_method_15_code
abbrev b304 : ByteArray := prog_24_method_7_code
abbrev b305 : ByteArray := prog_24_method_93_code
abbrev b306 : ByteArray := prog_24_method_39_code
abbrev b307 : ByteArray := prog_24_method_42_code
abbrev b130 : ByteArray := prog_11_method_2_code
abbrev b132 : ByteArray := prog_11_method_3_code
abbrev b133 : ByteArray := prog_11_method_4_code
abbrev b134 : ByteArray := prog_11_method_5_code
abbrev b131 : ByteArray := prog_11_method_6_code
abbrev b301 : ByteArray := prog_24_method_1_code
theorem c_sb_appI (l : Launch) (ρ : RH) (H : Heap) (P : Nat → Prop) (ba bb : Nat) (x : BT) (p0 : Int32) (res : BT × Nat × Nat) (hC : CC ρ P H) (hPb : ∀ q, P q → q < H.size) (hSB : SB ρ H ba bb x ∧ P ba ∧ P bb) (h : f_sb_appI x p0 = some res) : Met l y303 (wsOf y303 b303 2 (some (.object "java/lang/StringBuilder"))) ({ frames := 12, cells := res.2.1, slots := res.2.2, locals := 600 } : Room) (va_Pc [.ref ba, .int p0] (KP ρ H)) (mQ (fun v H1 => v = some (.ref ba) ∧ ∃ b1, (b1 = bb ∨ H.size ≤ b1) ∧ b1 < H1.size ∧ SB ρ H1 ba b1 res.1) (fun q => q = ba ∨ q = bb ∨ H.size ≤ q)) res.2.1 res.2.2 (fun q => q = ba ∨ q = bb ∨ H.size ≤ q) := by
  sorry
theorem c_sb_rev (l : Launch) (ρ : RH) (H : Heap) (P : Nat → Prop) (ba bb : Nat) (x : BT) (res : BT) (hC : CC ρ P H) (hPb : ∀ q, P q → q < H.size) (hSB : SB ρ H ba bb x ∧ P ba ∧ P bb) (h : f_sb_rev x = some res) : Met l y306 (wsOf y306 b306 1 (some (.object "java/lang/StringBuilder"))) ({ frames := 12, cells := 0, slots := 0, locals := 600 } : Room) (va_Pc [.ref ba] (KP ρ H)) (mQ (fun v H1 => v = some (.ref ba) ∧ ∃ b1, (b1 = bb ∨ H.size ≤ b1) ∧ b1 < H1.size ∧ SB ρ H1 ba b1 res) (fun q => q = ba ∨ q = bb ∨ H.size ≤ q)) 0 0 (fun q => q = ba ∨ q = bb ∨ H.size ≤ q) := by
  sorry
def TX0 : TT := []
def TX1 : TT := []
def TX2 : TT := [32, 62, 32]
def TX3 : TT := [97, 32, 103, 114, 105, 100, 32, 104, 97, 115, 32, 111, 110, 101, 32, 114, 111, 119, 32, 97, 110, 100, 32, 111, 110, 101, 32, 99, 111, 108, 117, 109, 110, 32, 97, 116, 32, 108, 101, 97, 115, 116]
def TX4 : TT := [116, 111, 111, 32, 109, 97, 110, 121, 32, 97, 114, 103, 117, 109, 101, 110, 116, 115, 32, 111, 114, 32, 118, 97, 108, 117, 101, 115]
def TX5 : TT := [110, 111, 32, 115, 117, 99, 104, 32, 102, 117, 110, 99, 116, 105, 111, 110, 32, 102, 111, 114, 32, 115, 111, 32, 109, 97, 110, 121, 32, 97, 114, 103, 117, 109, 101, 110, 116, 115]
def TX6 : TT := []
def TX7 : TT := [84, 82, 85, 69]
def TX8 : TT := [70, 65, 76, 83, 69]
def TX9 : TT := []
def TX10 : TT := []
def TX11 : TT := []
def TX12 : TT := [77, 32, 67, 77, 68, 32, 67, 68, 67, 32, 88, 67, 76, 32, 88, 76, 88, 32, 73, 88, 86, 32, 73, 86, 73, 32]
def TX13 : TT := [36]
def TX14 : TT := []
def TX15 : TT := [91]
def TX16 : TT := [93]
def TX17 : TT := [89]
def TX18 : TT := [77]
def TX19 : TT := [68]
def TX20 : TT := [89, 77]
def TX21 : TT := [77, 68]
def TX22 : TT := [89, 68]

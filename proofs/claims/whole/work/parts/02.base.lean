/-! ===== base: words, classes ===== -/
abbrev gC : Type := Nat → Option (Instr × Nat × Int32 × Nat)
/-- the fields that are boolean -/
def gZf (ci f : Nat) : Bool := Nat.beq ci 12 && Nat.beq f 59
abbrev gcl : List vw_C := [(RX0, TX0, 4), (RX1, TX1, 8), (RX2, TX2, 6), (RX3, TX3, 3), (RX4, TX4, 5), (RX5, TX5, 9), (RX6, TX6, 8), (RX7, TX7, 3), (RX8, TX8, 9), (RX9, TX9, 5), (RX10, TX10, 9), (RX11, TX11, 10), (RX12, TX12, 65)]
def gT : List Cond := lw_tbl.filter goodWord
theorem gT_mem {w : Cond} (h : w ∈ lw_tbl) (hg : goodWord w = true) : w ∈ gT := List.mem_filter.mpr ⟨h, hg⟩
theorem gT_all {ws : List Cond} (h : ∀ w ∈ ws, w ∈ lw_tbl) (hg : ws.all goodWord = true) : ∀ w ∈ ws, w ∈ gT := fun w hw => gT_mem (h w hw) (List.all_eq_true.mp hg w hw)

/-! ===== 'throw new NoSuchElementException(text)': its constructor calls RuntimeException's by the index 13 (the library's ctorThrowS knows 7 alone); no traces kept. My own walk over the library's lemmas, which are named ===== -/
def nseB : ByteArray := ⟨#[0x2a, 0x2b, 0xb7, 0x00, 0x0d, 0xb1]⟩
theorem nseB_0 : decode nseB 0 = .ok (.aload_n 0, 1) := by decide +kernel
theorem nseB_1 : decode nseB 1 = .ok (.aload_n 1, 1) := by decide +kernel
theorem nseB_2 : decode nseB 2 = .ok (.invokespecial 13, 3) := by decide +kernel
theorem nseB_5 : decode nseB 5 = .ok (.return_, 1) := by decide +kernel
def nseA (own : String) (ic : Nat) (E : String) : List Cond := Bundle.ownAtomsX own ic E 13 nseB xnm
theorem nseB_t : prog_37_method_4_code = nseB := rfl
def nseOk (ic : Nat) (E : String) : Bool := ((nseA RX8 ic E).filter vx_no).all (fun w => vx_ot w && (goodWord w || exOk w) && decide (w ∈ tables_1))
theorem nse_all : nseOk 273 "java/util/NoSuchElementException" = true := by decide +kernel

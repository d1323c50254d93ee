abbrev R_Bits : String := "WaveletSlices$Bits"
def F_Bits : u_T := fun k => match k with
  | 0 => ("WaveletSlices$Bits", "bytes", "[I", true)
  | 1 => ("WaveletSlices$Bits", "at", "I", false)
  | _ => ("WaveletSlices$Bits", "end", "I", false)
def t_Bits : Nat → FieldType := fun k => match k with
  | 0 => .array .int
  | 1 => .int
  | _ => .int
theorem n_Bits : ∀ a, a < 3 → ∀ b, b < 3 → a ≠ b → (F_Bits a).2.1 ≠ (F_Bits b).2.1 := by decide +kernel
theorem t_Bits_ok : ∀ k, k < 3 → parseFieldDescriptor (F_Bits k).2.2.1 = some (t_Bits k) := by decide +kernel
abbrev R_Layout : String := "WaveletSlices$Layout"
def F_Layout : u_T := fun k => match k with
  | 0 => ("WaveletSlices$Layout", "columns", "I", false)
  | 1 => ("WaveletSlices$Layout", "rows", "I", false)
  | 2 => ("WaveletSlices$Layout", "bandCount", "I", false)
  | 3 => ("WaveletSlices$Layout", "left", "[I", true)
  | 4 => ("WaveletSlices$Layout", "top", "[I", true)
  | 5 => ("WaveletSlices$Layout", "wide", "[I", true)
  | 6 => ("WaveletSlices$Layout", "high", "[I", true)
  | 7 => ("WaveletSlices$Layout", "first", "[I", true)
  | 8 => ("WaveletSlices$Layout", "placeOf", "[I", true)
  | _ => ("WaveletSlices$Layout", "bandOf", "[I", true)
def t_Layout : Nat → FieldType := fun k => match k with
  | 0 => .int
  | 1 => .int
  | 2 => .int
  | 3 => .array .int
  | 4 => .array .int
  | 5 => .array .int
  | 6 => .array .int
  | 7 => .array .int
  | 8 => .array .int
  | _ => .array .int
theorem n_Layout : ∀ a, a < 10 → ∀ b, b < 10 → a ≠ b → (F_Layout a).2.1 ≠ (F_Layout b).2.1 := by decide +kernel
theorem t_Layout_ok : ∀ k, k < 10 → parseFieldDescriptor (F_Layout k).2.2.1 = some (t_Layout k) := by decide +kernel
abbrev R_Quant : String := "WaveletSlices$Quantiser"
def F_Quant : u_T := fun k => match k with
  | 0 => ("WaveletSlices$Quantiser", "factor", "[I", true)
  | _ => ("WaveletSlices$Quantiser", "offset", "[I", true)
def t_Quant : Nat → FieldType := fun k => match k with
  | 0 => .array .int
  | _ => .array .int
theorem n_Quant : ∀ a, a < 2 → ∀ b, b < 2 → a ≠ b → (F_Quant a).2.1 ≠ (F_Quant b).2.1 := by decide +kernel
theorem t_Quant_ok : ∀ k, k < 2 → parseFieldDescriptor (F_Quant k).2.2.1 = some (t_Quant k) := by decide +kernel
abbrev R_Setup : String := "WaveletSlices$Setup"
def F_Setup : u_T := fun k => match k with
  | 0 => ("WaveletSlices$Setup", "kind", "I", false)
  | 1 => ("WaveletSlices$Setup", "levelsBoth", "I", false)
  | 2 => ("WaveletSlices$Setup", "levelsWide", "I", false)
  | 3 => ("WaveletSlices$Setup", "across", "I", false)
  | 4 => ("WaveletSlices$Setup", "down", "I", false)
  | 5 => ("WaveletSlices$Setup", "predicts", "Z", false)
  | 6 => ("WaveletSlices$Setup", "eases", "[I", true)
  | 7 => ("WaveletSlices$Setup", "num", "I", false)
  | _ => ("WaveletSlices$Setup", "den", "I", false)
def t_Setup : Nat → FieldType := fun k => match k with
  | 0 => .int
  | 1 => .int
  | 2 => .int
  | 3 => .int
  | 4 => .int
  | 5 => .boolean
  | 6 => .array .int
  | 7 => .int
  | _ => .int
theorem n_Setup : ∀ a, a < 9 → ∀ b, b < 9 → a ≠ b → (F_Setup a).2.1 ≠ (F_Setup b).2.1 := by decide +kernel
theorem t_Setup_ok : ∀ k, k < 9 → parseFieldDescriptor (F_Setup k).2.2.1 = some (t_Setup k) := by decide +kernel
abbrev R_Coder : String := "WaveletSlices$SliceCoder"
def F_Coder : u_T := fun k => match k with
  | 0 => ("WaveletSlices$SliceCoder", "stream", "[I", true)
  | 1 => ("WaveletSlices$SliceCoder", "setup", "LWaveletSlices$Setup;", true)
  | 2 => ("WaveletSlices$SliceCoder", "layout", "LWaveletSlices$Layout;", true)
  | 3 => ("WaveletSlices$SliceCoder", "quantiser", "LWaveletSlices$Quantiser;", true)
  | 4 => ("WaveletSlices$SliceCoder", "bits", "LWaveletSlices$Bits;", true)
  | 5 => ("WaveletSlices$SliceCoder", "numbers", "[I", true)
  | 6 => ("WaveletSlices$SliceCoder", "from", "I", false)
  | 7 => ("WaveletSlices$SliceCoder", "to", "I", false)
  | 8 => ("WaveletSlices$SliceCoder", "firstBit", "I", false)
  | 9 => ("WaveletSlices$SliceCoder", "lengthDigits", "I", false)
  | _ => ("WaveletSlices$SliceCoder", "room", "I", false)
def t_Coder : Nat → FieldType := fun k => match k with
  | 0 => .array .int
  | 1 => .object "WaveletSlices$Setup"
  | 2 => .object "WaveletSlices$Layout"
  | 3 => .object "WaveletSlices$Quantiser"
  | 4 => .object "WaveletSlices$Bits"
  | 5 => .array .int
  | 6 => .int
  | 7 => .int
  | 8 => .int
  | 9 => .int
  | _ => .int
theorem n_Coder : ∀ a, a < 11 → ∀ b, b < 11 → a ≠ b → (F_Coder a).2.1 ≠ (F_Coder b).2.1 := by decide +kernel
theorem t_Coder_ok : ∀ k, k < 11 → parseFieldDescriptor (F_Coder k).2.2.1 = some (t_Coder k) := by decide +kernel
abbrev R_Trans : String := "WaveletSlices$Transform"
def F_Trans : u_T := fun k => match k with
  | 0 => ("WaveletSlices$Transform", "evens", "[J", true)
  | _ => ("WaveletSlices$Transform", "odds", "[J", true)
def t_Trans : Nat → FieldType := fun k => match k with
  | 0 => .array .long
  | _ => .array .long
theorem n_Trans : ∀ a, a < 2 → ∀ b, b < 2 → a ≠ b → (F_Trans a).2.1 ≠ (F_Trans b).2.1 := by decide +kernel
theorem t_Trans_ok : ∀ k, k < 2 → parseFieldDescriptor (F_Trans k).2.2.1 = some (t_Trans k) := by decide +kernel
abbrev R_X : String := "WaveletSlices"
def F_X : u_T := fun k => match k with
  | 0 => ("WaveletSlices", "width", "I", true)
  | 1 => ("WaveletSlices", "height", "I", true)
  | 2 => ("WaveletSlices", "picture", "[I", true)
  | 3 => ("WaveletSlices", "setup", "LWaveletSlices$Setup;", true)
  | 4 => ("WaveletSlices", "layout", "LWaveletSlices$Layout;", true)
  | 5 => ("WaveletSlices", "transform", "LWaveletSlices$Transform;", true)
  | 6 => ("WaveletSlices", "coder", "LWaveletSlices$SliceCoder;", true)
  | 7 => ("WaveletSlices", "work", "[J", true)
  | 8 => ("WaveletSlices", "written", "[J", true)
  | 9 => ("WaveletSlices", "streamThere", "Z", false)
  | 10 => ("WaveletSlices", "readThere", "Z", false)
  | 11 => ("WaveletSlices", "readCoefficients", "[J", true)
  | _ => ("WaveletSlices", "readPicture", "[I", true)
def t_X : Nat → FieldType := fun k => match k with
  | 0 => .int
  | 1 => .int
  | 2 => .array .int
  | 3 => .object "WaveletSlices$Setup"
  | 4 => .object "WaveletSlices$Layout"
  | 5 => .object "WaveletSlices$Transform"
  | 6 => .object "WaveletSlices$SliceCoder"
  | 7 => .array .long
  | 8 => .array .long
  | 9 => .boolean
  | 10 => .boolean
  | 11 => .array .long
  | _ => .array .int
theorem n_X : ∀ a, a < 13 → ∀ b, b < 13 → a ≠ b → (F_X a).2.1 ≠ (F_X b).2.1 := by decide +kernel
theorem t_X_ok : ∀ k, k < 13 → parseFieldDescriptor (F_X k).2.2.1 = some (t_X k) := by decide +kernel
abbrev R_Mod : String := "WaveletSlicesModel"
def F_Mod : u_T := fun k => match k with
  | 0 => ("WaveletSlicesModel", "width", "I", false)
  | 1 => ("WaveletSlicesModel", "height", "I", false)
  | 2 => ("WaveletSlicesModel", "samples", "[I", false)
  | 3 => ("WaveletSlicesModel", "back", "[I", false)
  | 4 => ("WaveletSlicesModel", "grid", "[J", false)
  | 5 => ("WaveletSlicesModel", "work", "[J", false)
  | 6 => ("WaveletSlicesModel", "kept", "[J", false)
  | 7 => ("WaveletSlicesModel", "kind", "I", false)
  | 8 => ("WaveletSlicesModel", "both", "I", false)
  | 9 => ("WaveletSlicesModel", "wide", "I", false)
  | 10 => ("WaveletSlicesModel", "across", "I", false)
  | 11 => ("WaveletSlicesModel", "down", "I", false)
  | 12 => ("WaveletSlicesModel", "predicts", "Z", false)
  | 13 => ("WaveletSlicesModel", "num", "I", false)
  | 14 => ("WaveletSlicesModel", "den", "I", false)
  | 15 => ("WaveletSlicesModel", "eases", "[I", false)
  | 16 => ("WaveletSlicesModel", "stream", "[B", false)
  | 17 => ("WaveletSlicesModel", "written", "Z", false)
  | 18 => ("WaveletSlicesModel", "readOnce", "Z", false)
  | 19 => ("WaveletSlicesModel", "even", "[J", false)
  | 20 => ("WaveletSlicesModel", "odd", "[J", false)
  | 21 => ("WaveletSlicesModel", "count", "I", false)
  | 22 => ("WaveletSlicesModel", "place", "[I", false)
  | 23 => ("WaveletSlicesModel", "bandOf", "[I", false)
  | 24 => ("WaveletSlicesModel", "base", "I", false)
  | 25 => ("WaveletSlicesModel", "size", "I", false)
  | 26 => ("WaveletSlicesModel", "lengthBits", "I", false)
  | 27 => ("WaveletSlicesModel", "room", "I", false)
  | 28 => ("WaveletSlicesModel", "cursor", "I", false)
  | 29 => ("WaveletSlicesModel", "stop", "I", false)
  | 30 => ("WaveletSlicesModel", "nonzeros", "I", false)
  | 31 => ("WaveletSlicesModel", "block", "[B", false)
  | 32 => ("WaveletSlicesModel", "spelt", "I", false)
  | _ => ("WaveletSlicesModel", "upToZero", "I", false)
def t_Mod : Nat → FieldType := fun k => match k with
  | 0 => .int
  | 1 => .int
  | 2 => .array .int
  | 3 => .array .int
  | 4 => .array .long
  | 5 => .array .long
  | 6 => .array .long
  | 7 => .int
  | 8 => .int
  | 9 => .int
  | 10 => .int
  | 11 => .int
  | 12 => .boolean
  | 13 => .int
  | 14 => .int
  | 15 => .array .int
  | 16 => .array .byte
  | 17 => .boolean
  | 18 => .boolean
  | 19 => .array .long
  | 20 => .array .long
  | 21 => .int
  | 22 => .array .int
  | 23 => .array .int
  | 24 => .int
  | 25 => .int
  | 26 => .int
  | 27 => .int
  | 28 => .int
  | 29 => .int
  | 30 => .int
  | 31 => .array .byte
  | 32 => .int
  | _ => .int
theorem n_Mod : ∀ a, a < 34 → ∀ b, b < 34 → a ≠ b → (F_Mod a).2.1 ≠ (F_Mod b).2.1 := by decide +kernel
theorem t_Mod_ok : ∀ k, k < 34 → parseFieldDescriptor (F_Mod k).2.2.1 = some (t_Mod k) := by decide +kernel
abbrev classes : List vw_C := [(R_Bits, F_Bits, 3), (R_Layout, F_Layout, 10), (R_Quant, F_Quant, 2), (R_Setup, F_Setup, 9), (R_Coder, F_Coder, 11), (R_Trans, F_Trans, 2), (R_X, F_X, 13), (R_Mod, F_Mod, 34)]
def y_Bits_digitsAfterFirst : MethodName := ⟨"WaveletSlices$Bits", "digitsAfterFirst", "(I)I"⟩
def y_Bits_init : MethodName := ⟨"WaveletSlices$Bits", "<init>", "([I)V"⟩
def y_Bits_open : MethodName := ⟨"WaveletSlices$Bits", "open", "(II)V"⟩
def y_Bits_put : MethodName := ⟨"WaveletSlices$Bits", "put", "(I)V"⟩
def y_Bits_putField : MethodName := ⟨"WaveletSlices$Bits", "putField", "(II)V"⟩
def y_Bits_putNumber : MethodName := ⟨"WaveletSlices$Bits", "putNumber", "(I)V"⟩
def y_Bits_sizeOf : MethodName := ⟨"WaveletSlices$Bits", "sizeOf", "(I)I"⟩
def y_Bits_sizeToLastZero : MethodName := ⟨"WaveletSlices$Bits", "sizeToLastZero", "(I)I"⟩
def y_Bits_take : MethodName := ⟨"WaveletSlices$Bits", "take", "()I"⟩
def y_Bits_takeField : MethodName := ⟨"WaveletSlices$Bits", "takeField", "(I)I"⟩
def y_Bits_takeNumber : MethodName := ⟨"WaveletSlices$Bits", "takeNumber", "()I"⟩
def y_Coder_clear : MethodName := ⟨"WaveletSlices$SliceCoder", "clear", "()V"⟩
def y_Coder_countNonzero : MethodName := ⟨"WaveletSlices$SliceCoder", "countNonzero", "(I)I"⟩
def y_Coder_easedAt : MethodName := ⟨"WaveletSlices$SliceCoder", "easedAt", "(II)I"⟩
def y_Coder_init : MethodName := ⟨"WaveletSlices$SliceCoder", "<init>", "(LWaveletSlices$Setup;LWaveletSlices$Layout;)V"⟩
def y_Coder_measure : MethodName := ⟨"WaveletSlices$SliceCoder", "measure", "(I[J[J)I"⟩
def y_Coder_openSlice : MethodName := ⟨"WaveletSlices$SliceCoder", "openSlice", "(I)V"⟩
def y_Coder_predictionAt : MethodName := ⟨"WaveletSlices$SliceCoder", "predictionAt", "(I[J)J"⟩
def y_Coder_readLength : MethodName := ⟨"WaveletSlices$SliceCoder", "readLength", "(I)I"⟩
def y_Coder_readNumbers : MethodName := ⟨"WaveletSlices$SliceCoder", "readNumbers", "(I)V"⟩
def y_Coder_readQuantiser : MethodName := ⟨"WaveletSlices$SliceCoder", "readQuantiser", "(I)I"⟩
def y_Coder_readSlice : MethodName := ⟨"WaveletSlices$SliceCoder", "readSlice", "(I[J)V"⟩
def y_Coder_rebuildAt : MethodName := ⟨"WaveletSlices$SliceCoder", "rebuildAt", "(IIJ[J)V"⟩
def y_Coder_writeBits : MethodName := ⟨"WaveletSlices$SliceCoder", "writeBits", "(II)V"⟩
def y_Coder_writeSlice : MethodName := ⟨"WaveletSlices$SliceCoder", "writeSlice", "(I[J[J)V"⟩
def y_Jarr_fill : MethodName := ⟨"java/util/Arrays", "fill", "([II)V"⟩
def y_Jint_numberOfLeadingZeros : MethodName := ⟨"java/lang/Integer", "numberOfLeadingZeros", "(I)I"⟩
def y_Jmath_abs_II : MethodName := ⟨"java/lang/Math", "abs", "(I)I"⟩
def y_Jmath_abs_JJ : MethodName := ⟨"java/lang/Math", "abs", "(J)J"⟩
def y_Jmath_floorDiv : MethodName := ⟨"java/lang/Math", "floorDiv", "(JJ)J"⟩
def y_Jmath_max_III : MethodName := ⟨"java/lang/Math", "max", "(II)I"⟩
def y_Jmath_max_JJJ : MethodName := ⟨"java/lang/Math", "max", "(JJ)J"⟩
def y_Jmath_min_III : MethodName := ⟨"java/lang/Math", "min", "(II)I"⟩
def y_Jmath_min_JJJ : MethodName := ⟨"java/lang/Math", "min", "(JJ)J"⟩
def y_Law_cell : MethodName := ⟨"WaveletSlicesLaw", "cell", "([II)I"⟩
def y_Law_law : MethodName := ⟨"WaveletSlicesLaw", "law", "([I)Z"⟩
def y_Layout_addBand : MethodName := ⟨"WaveletSlices$Layout", "addBand", "(IIII)V"⟩
def y_Layout_addPart : MethodName := ⟨"WaveletSlices$Layout", "addPart", "(LWaveletSlices$Setup;III)I"⟩
def y_Layout_cutSlices : MethodName := ⟨"WaveletSlices$Layout", "cutSlices", "(LWaveletSlices$Setup;)V"⟩
def y_Layout_has : MethodName := ⟨"WaveletSlices$Layout", "has", "(II)Z"⟩
def y_Layout_init : MethodName := ⟨"WaveletSlices$Layout", "<init>", "()V"⟩
def y_Layout_leastMultiple : MethodName := ⟨"WaveletSlices$Layout", "leastMultiple", "(II)I"⟩
def y_Layout_placeBands : MethodName := ⟨"WaveletSlices$Layout", "placeBands", "(LWaveletSlices$Setup;II)V"⟩
def y_Mod_amount : MethodName := ⟨"WaveletSlicesModel", "amount", "(III)J"⟩
def y_Mod_backward : MethodName := ⟨"WaveletSlicesModel", "backward", "()V"⟩
def y_Mod_bands : MethodName := ⟨"WaveletSlicesModel", "bands", "()I"⟩
def y_Mod_bitAt : MethodName := ⟨"WaveletSlicesModel", "bitAt", "(I)I"⟩
def y_Mod_bitsAt : MethodName := ⟨"WaveletSlicesModel", "bitsAt", "(II)I"⟩
def y_Mod_bound : MethodName := ⟨"WaveletSlicesModel", "bound", "(J)J"⟩
def y_Mod_byteAt : MethodName := ⟨"WaveletSlicesModel", "byteAt", "(I)I"⟩
def y_Mod_changesOdd : MethodName := ⟨"WaveletSlicesModel", "changesOdd", "(I)Z"⟩
def y_Mod_clip : MethodName := ⟨"WaveletSlicesModel", "clip", "(J)I"⟩
def y_Mod_coefficient : MethodName := ⟨"WaveletSlicesModel", "coefficient", "(II)J"⟩
def y_Mod_columns : MethodName := ⟨"WaveletSlicesModel", "columns", "()I"⟩
def y_Mod_decode : MethodName := ⟨"WaveletSlicesModel", "decode", "()I"⟩
def y_Mod_decoded : MethodName := ⟨"WaveletSlicesModel", "decoded", "(II)I"⟩
def y_Mod_doStep : MethodName := ⟨"WaveletSlicesModel", "doStep", "(IIZ)V"⟩
def y_Mod_ease : MethodName := ⟨"WaveletSlicesModel", "ease", "(II)Z"⟩
def y_Mod_emit : MethodName := ⟨"WaveletSlicesModel", "emit", "(I)V"⟩
def y_Mod_emitNumber : MethodName := ⟨"WaveletSlicesModel", "emitNumber", "(J)V"⟩
def y_Mod_encode : MethodName := ⟨"WaveletSlicesModel", "encode", "()I"⟩
def y_Mod_error : MethodName := ⟨"WaveletSlicesModel", "error", "()I"⟩
def y_Mod_factor : MethodName := ⟨"WaveletSlicesModel", "factor", "(I)J"⟩
def y_Mod_filter : MethodName := ⟨"WaveletSlicesModel", "filter", "(III)Z"⟩
def y_Mod_fineness : MethodName := ⟨"WaveletSlicesModel", "fineness", "(II)I"⟩
def y_Mod_forecast : MethodName := ⟨"WaveletSlicesModel", "forecast", "(I)J"⟩
def y_Mod_forget : MethodName := ⟨"WaveletSlicesModel", "forget", "()V"⟩
def y_Mod_forward : MethodName := ⟨"WaveletSlicesModel", "forward", "()V"⟩
def y_Mod_halvings : MethodName := ⟨"WaveletSlicesModel", "halvings", "(IZ)I"⟩
def y_Mod_index : MethodName := ⟨"WaveletSlicesModel", "index", "(I)I"⟩
def y_Mod_init : MethodName := ⟨"WaveletSlicesModel", "<init>", "(II)V"⟩
def y_Mod_isByte : MethodName := ⟨"WaveletSlicesModel", "isByte", "(I)Z"⟩
def y_Mod_isCoefficient : MethodName := ⟨"WaveletSlicesModel", "isCoefficient", "(II)Z"⟩
def y_Mod_isPlace : MethodName := ⟨"WaveletSlicesModel", "isPlace", "(II)Z"⟩
def y_Mod_isSlice : MethodName := ⟨"WaveletSlicesModel", "isSlice", "(I)Z"⟩
def y_Mod_left : MethodName := ⟨"WaveletSlicesModel", "left", "(I)I"⟩
def y_Mod_lengthOf : MethodName := ⟨"WaveletSlicesModel", "lengthOf", "(I)I"⟩
def y_Mod_list : MethodName := ⟨"WaveletSlicesModel", "list", "(I)V"⟩
def y_Mod_look : MethodName := ⟨"WaveletSlicesModel", "look", "(I)V"⟩
def y_Mod_next : MethodName := ⟨"WaveletSlicesModel", "next", "()I"⟩
def y_Mod_nonzero : MethodName := ⟨"WaveletSlicesModel", "nonzero", "(I)I"⟩
def y_Mod_number : MethodName := ⟨"WaveletSlicesModel", "number", "(JI)J"⟩
def y_Mod_paint : MethodName := ⟨"WaveletSlicesModel", "paint", "(IIIII)Z"⟩
def y_Mod_pair : MethodName := ⟨"WaveletSlicesModel", "pair", "(ZIII)J"⟩
def y_Mod_poke : MethodName := ⟨"WaveletSlicesModel", "poke", "(II)Z"⟩
def y_Mod_putBit : MethodName := ⟨"WaveletSlicesModel", "putBit", "(II)V"⟩
def y_Mod_rate : MethodName := ⟨"WaveletSlicesModel", "rate", "(II)Z"⟩
def y_Mod_read : MethodName := ⟨"WaveletSlicesModel", "read", "(I)V"⟩
def y_Mod_readNumber : MethodName := ⟨"WaveletSlicesModel", "readNumber", "()J"⟩
def y_Mod_rebuilt : MethodName := ⟨"WaveletSlicesModel", "rebuilt", "(II)J"⟩
def y_Mod_region : MethodName := ⟨"WaveletSlicesModel", "region", "(IIZZ)V"⟩
def y_Mod_rows : MethodName := ⟨"WaveletSlicesModel", "rows", "()I"⟩
def y_Mod_sample : MethodName := ⟨"WaveletSlicesModel", "sample", "(II)I"⟩
def y_Mod_slices : MethodName := ⟨"WaveletSlicesModel", "slices", "(IIZ)Z"⟩
def y_Mod_slope : MethodName := ⟨"WaveletSlicesModel", "slope", "(II)Z"⟩
def y_Mod_spell : MethodName := ⟨"WaveletSlicesModel", "spell", "(I)V"⟩
def y_Mod_takesAway : MethodName := ⟨"WaveletSlicesModel", "takesAway", "(I)Z"⟩
def y_Mod_top : MethodName := ⟨"WaveletSlicesModel", "top", "(I)I"⟩
def y_Mod_turn : MethodName := ⟨"WaveletSlicesModel", "turn", "(IIIZ)V"⟩
def y_Mod_used : MethodName := ⟨"WaveletSlicesModel", "used", "(I)I"⟩
def y_Mod_value : MethodName := ⟨"WaveletSlicesModel", "value", "(JI)J"⟩
def y_Mod_write : MethodName := ⟨"WaveletSlicesModel", "write", "(I)V"⟩
def y_Quant_factorOf : MethodName := ⟨"WaveletSlices$Quantiser", "factorOf", "(I)I"⟩
def y_Quant_init : MethodName := ⟨"WaveletSlices$Quantiser", "<init>", "()V"⟩
def y_Quant_numberOf : MethodName := ⟨"WaveletSlices$Quantiser", "numberOf", "(JI)I"⟩
def y_Quant_valueOf : MethodName := ⟨"WaveletSlices$Quantiser", "valueOf", "(II)J"⟩
def y_Setup_bandCount : MethodName := ⟨"WaveletSlices$Setup", "bandCount", "()I"⟩
def y_Setup_firstByte : MethodName := ⟨"WaveletSlices$Setup", "firstByte", "(I)I"⟩
def y_Setup_init : MethodName := ⟨"WaveletSlices$Setup", "<init>", "()V"⟩
def y_Setup_levels : MethodName := ⟨"WaveletSlices$Setup", "levels", "()I"⟩
def y_Setup_sliceCount : MethodName := ⟨"WaveletSlices$Setup", "sliceCount", "()I"⟩
def y_Trans_init : MethodName := ⟨"WaveletSlices$Transform", "<init>", "()V"⟩
def y_Trans_joinLine : MethodName := ⟨"WaveletSlices$Transform", "joinLine", "([JIIII)V"⟩
def y_Trans_lift : MethodName := ⟨"WaveletSlices$Transform", "lift", "(III)V"⟩
def y_Trans_lower : MethodName := ⟨"WaveletSlices$Transform", "lower", "([JIII)V"⟩
def y_Trans_raise : MethodName := ⟨"WaveletSlices$Transform", "raise", "([JIII)V"⟩
def y_Trans_splitLine : MethodName := ⟨"WaveletSlices$Transform", "splitLine", "([JIIII)V"⟩
def y_Trans_toCoefficients : MethodName := ⟨"WaveletSlices$Transform", "toCoefficients", "([JLWaveletSlices$Setup;LWaveletSlices$Layout;)V"⟩
def y_Trans_toPicture : MethodName := ⟨"WaveletSlices$Transform", "toPicture", "([JLWaveletSlices$Setup;LWaveletSlices$Layout;)V"⟩
def y_Trans_weigh : MethodName := ⟨"WaveletSlices$Transform", "weigh", "([JIII)J"⟩
def y_X_asSample : MethodName := ⟨"WaveletSlices", "asSample", "(J)J"⟩
def y_X_bands : MethodName := ⟨"WaveletSlices", "bands", "()I"⟩
def y_X_byteAt : MethodName := ⟨"WaveletSlices", "byteAt", "(I)I"⟩
def y_X_coefficient : MethodName := ⟨"WaveletSlices", "coefficient", "(II)J"⟩
def y_X_countChanged : MethodName := ⟨"WaveletSlices", "countChanged", "()I"⟩
def y_X_decode : MethodName := ⟨"WaveletSlices", "decode", "()I"⟩
def y_X_decoded : MethodName := ⟨"WaveletSlices", "decoded", "(II)I"⟩
def y_X_ease : MethodName := ⟨"WaveletSlices", "ease", "(II)Z"⟩
def y_X_encode : MethodName := ⟨"WaveletSlices", "encode", "()I"⟩
def y_X_error : MethodName := ⟨"WaveletSlices", "error", "()I"⟩
def y_X_filter : MethodName := ⟨"WaveletSlices", "filter", "(III)Z"⟩
def y_X_findCoefficients : MethodName := ⟨"WaveletSlices", "findCoefficients", "()V"⟩
def y_X_forget : MethodName := ⟨"WaveletSlices", "forget", "()V"⟩
def y_X_hasByte : MethodName := ⟨"WaveletSlices", "hasByte", "(I)Z"⟩
def y_X_hasSlice : MethodName := ⟨"WaveletSlices", "hasSlice", "(I)Z"⟩
def y_X_inPicture : MethodName := ⟨"WaveletSlices", "inPicture", "(II)Z"⟩
def y_X_index : MethodName := ⟨"WaveletSlices", "index", "(I)I"⟩
def y_X_init : MethodName := ⟨"WaveletSlices", "<init>", "(II)V"⟩
def y_X_makeReadPicture : MethodName := ⟨"WaveletSlices", "makeReadPicture", "()V"⟩
def y_X_nonzero : MethodName := ⟨"WaveletSlices", "nonzero", "(I)I"⟩
def y_X_paint : MethodName := ⟨"WaveletSlices", "paint", "(IIIII)Z"⟩
def y_X_poke : MethodName := ⟨"WaveletSlices", "poke", "(II)Z"⟩
def y_X_rate : MethodName := ⟨"WaveletSlices", "rate", "(II)Z"⟩
def y_X_rebuilt : MethodName := ⟨"WaveletSlices", "rebuilt", "(II)J"⟩
def y_X_sample : MethodName := ⟨"WaveletSlices", "sample", "(II)I"⟩
def y_X_slices : MethodName := ⟨"WaveletSlices", "slices", "(IIZ)Z"⟩
def y_X_slope : MethodName := ⟨"WaveletSlices", "slope", "(II)Z"⟩
def y_X_streamSize : MethodName := ⟨"WaveletSlices", "streamSize", "()I"⟩
def y_X_used : MethodName := ⟨"WaveletSlices", "used", "(I)I"⟩
def y_X_within : MethodName := ⟨"WaveletSlices", "within", "(III)Z"⟩
/-! the words that go from method to method: those of the tables that stay -/
def wl : List Cond := lw_tbl.filter goodWord
theorem wl_p {w : Cond} (k : Nat) (h : (k2_sels lw_privs)[k]? = some w) (hg : goodWord w = true) : w ∈ wl := List.mem_filter.mpr ⟨List.mem_append_left _ (List.mem_of_getElem? h), hg⟩
theorem wl_1 {w : Cond} (k : Nat) (h : tables_1_1[k]? = some w) (hg : goodWord w = true) : w ∈ wl := List.mem_filter.mpr ⟨List.mem_append_right _ (List.mem_append_left _ (List.mem_of_getElem? h)), hg⟩
theorem wl_2 {w : Cond} (k : Nat) (h : tables_1_2[k]? = some w) (hg : goodWord w = true) : w ∈ wl := List.mem_filter.mpr ⟨List.mem_append_right _ (List.mem_append_right _ (List.mem_append_left _ (List.mem_of_getElem? h))), hg⟩
theorem wl_3 {w : Cond} (k : Nat) (h : tables_1_3[k]? = some w) (hg : goodWord w = true) : w ∈ wl := List.mem_filter.mpr ⟨List.mem_append_right _ (List.mem_append_right _ (List.mem_append_right _ (List.mem_append_left _ (List.mem_of_getElem? h)))), hg⟩
theorem wl_4 {w : Cond} (k : Nat) (h : tables_1_4[k]? = some w) (hg : goodWord w = true) : w ∈ wl := List.mem_filter.mpr ⟨List.mem_append_right _ (List.mem_append_right _ (List.mem_append_right _ (List.mem_append_right _ (List.mem_append_left _ (List.mem_of_getElem? h))))), hg⟩
theorem wl_5 {w : Cond} (k : Nat) (h : tables_1_5[k]? = some w) (hg : goodWord w = true) : w ∈ wl := List.mem_filter.mpr ⟨List.mem_append_right _ (List.mem_append_right _ (List.mem_append_right _ (List.mem_append_right _ (List.mem_append_right _ ((List.mem_of_getElem? h)))))), hg⟩
theorem in_Bits : ∀ w ∈ u_ws R_Bits F_Bits 3, w ∈ wl := by
  intro w hw
  obtain ⟨k, hk, rfl⟩ := List.mem_map.mp hw
  have hk := List.mem_range.mp hk
  rcases (show k = 0 ∨ k = 1 ∨ k = 2 by omega) with rfl | rfl | rfl
  · exact wl_1 169 (by decide +kernel) (by decide +kernel)
  · exact wl_1 171 (by decide +kernel) (by decide +kernel)
  · exact wl_1 173 (by decide +kernel) (by decide +kernel)
theorem in_Layout : ∀ w ∈ u_ws R_Layout F_Layout 10, w ∈ wl := by
  intro w hw
  obtain ⟨k, hk, rfl⟩ := List.mem_map.mp hw
  have hk := List.mem_range.mp hk
  rcases (show k = 0 ∨ k = 1 ∨ k = 2 ∨ k = 3 ∨ k = 4 ∨ k = 5 ∨ k = 6 ∨ k = 7 ∨ k = 8 ∨ k = 9 by omega) with rfl | rfl | rfl | rfl | rfl | rfl | rfl | rfl | rfl | rfl
  · exact wl_1 95 (by decide +kernel) (by decide +kernel)
  · exact wl_1 97 (by decide +kernel) (by decide +kernel)
  · exact wl_1 99 (by decide +kernel) (by decide +kernel)
  · exact wl_1 101 (by decide +kernel) (by decide +kernel)
  · exact wl_1 103 (by decide +kernel) (by decide +kernel)
  · exact wl_1 105 (by decide +kernel) (by decide +kernel)
  · exact wl_1 107 (by decide +kernel) (by decide +kernel)
  · exact wl_1 109 (by decide +kernel) (by decide +kernel)
  · exact wl_1 111 (by decide +kernel) (by decide +kernel)
  · exact wl_1 113 (by decide +kernel) (by decide +kernel)
theorem in_Quant : ∀ w ∈ u_ws R_Quant F_Quant 2, w ∈ wl := by
  intro w hw
  obtain ⟨k, hk, rfl⟩ := List.mem_map.mp hw
  have hk := List.mem_range.mp hk
  rcases (show k = 0 ∨ k = 1 by omega) with rfl | rfl
  · exact wl_1 155 (by decide +kernel) (by decide +kernel)
  · exact wl_1 157 (by decide +kernel) (by decide +kernel)
theorem in_Setup : ∀ w ∈ u_ws R_Setup F_Setup 9, w ∈ wl := by
  intro w hw
  obtain ⟨k, hk, rfl⟩ := List.mem_map.mp hw
  have hk := List.mem_range.mp hk
  rcases (show k = 0 ∨ k = 1 ∨ k = 2 ∨ k = 3 ∨ k = 4 ∨ k = 5 ∨ k = 6 ∨ k = 7 ∨ k = 8 by omega) with rfl | rfl | rfl | rfl | rfl | rfl | rfl | rfl | rfl
  · exact wl_1 52 (by decide +kernel) (by decide +kernel)
  · exact wl_1 54 (by decide +kernel) (by decide +kernel)
  · exact wl_1 56 (by decide +kernel) (by decide +kernel)
  · exact wl_1 58 (by decide +kernel) (by decide +kernel)
  · exact wl_1 60 (by decide +kernel) (by decide +kernel)
  · exact wl_1 62 (by decide +kernel) (by decide +kernel)
  · exact wl_1 64 (by decide +kernel) (by decide +kernel)
  · exact wl_1 66 (by decide +kernel) (by decide +kernel)
  · exact wl_1 68 (by decide +kernel) (by decide +kernel)
theorem in_Coder : ∀ w ∈ u_ws R_Coder F_Coder 11, w ∈ wl := by
  intro w hw
  obtain ⟨k, hk, rfl⟩ := List.mem_map.mp hw
  have hk := List.mem_range.mp hk
  rcases (show k = 0 ∨ k = 1 ∨ k = 2 ∨ k = 3 ∨ k = 4 ∨ k = 5 ∨ k = 6 ∨ k = 7 ∨ k = 8 ∨ k = 9 ∨ k = 10 by omega) with rfl | rfl | rfl | rfl | rfl | rfl | rfl | rfl | rfl | rfl | rfl
  · exact wl_1 188 (by decide +kernel) (by decide +kernel)
  · exact wl_1 190 (by decide +kernel) (by decide +kernel)
  · exact wl_1 192 (by decide +kernel) (by decide +kernel)
  · exact wl_1 194 (by decide +kernel) (by decide +kernel)
  · exact wl_1 196 (by decide +kernel) (by decide +kernel)
  · exact wl_1 198 (by decide +kernel) (by decide +kernel)
  · exact wl_1 200 (by decide +kernel) (by decide +kernel)
  · exact wl_1 202 (by decide +kernel) (by decide +kernel)
  · exact wl_1 204 (by decide +kernel) (by decide +kernel)
  · exact wl_1 206 (by decide +kernel) (by decide +kernel)
  · exact wl_1 208 (by decide +kernel) (by decide +kernel)
theorem in_Trans : ∀ w ∈ u_ws R_Trans F_Trans 2, w ∈ wl := by
  intro w hw
  obtain ⟨k, hk, rfl⟩ := List.mem_map.mp hw
  have hk := List.mem_range.mp hk
  rcases (show k = 0 ∨ k = 1 by omega) with rfl | rfl
  · exact wl_1 124 (by decide +kernel) (by decide +kernel)
  · exact wl_1 126 (by decide +kernel) (by decide +kernel)
theorem in_X : ∀ w ∈ u_ws R_X F_X 13, w ∈ wl := by
  intro w hw
  obtain ⟨k, hk, rfl⟩ := List.mem_map.mp hw
  have hk := List.mem_range.mp hk
  rcases (show k = 0 ∨ k = 1 ∨ k = 2 ∨ k = 3 ∨ k = 4 ∨ k = 5 ∨ k = 6 ∨ k = 7 ∨ k = 8 ∨ k = 9 ∨ k = 10 ∨ k = 11 ∨ k = 12 by omega) with rfl | rfl | rfl | rfl | rfl | rfl | rfl | rfl | rfl | rfl | rfl | rfl | rfl
  · exact wl_2 17 (by decide +kernel) (by decide +kernel)
  · exact wl_2 19 (by decide +kernel) (by decide +kernel)
  · exact wl_2 21 (by decide +kernel) (by decide +kernel)
  · exact wl_2 23 (by decide +kernel) (by decide +kernel)
  · exact wl_2 25 (by decide +kernel) (by decide +kernel)
  · exact wl_2 27 (by decide +kernel) (by decide +kernel)
  · exact wl_2 29 (by decide +kernel) (by decide +kernel)
  · exact wl_2 31 (by decide +kernel) (by decide +kernel)
  · exact wl_2 33 (by decide +kernel) (by decide +kernel)
  · exact wl_2 35 (by decide +kernel) (by decide +kernel)
  · exact wl_2 37 (by decide +kernel) (by decide +kernel)
  · exact wl_2 39 (by decide +kernel) (by decide +kernel)
  · exact wl_2 41 (by decide +kernel) (by decide +kernel)
theorem in_Mod : ∀ w ∈ u_ws R_Mod F_Mod 34, w ∈ wl := by
  intro w hw
  obtain ⟨k, hk, rfl⟩ := List.mem_map.mp hw
  have hk := List.mem_range.mp hk
  rcases (show k = 0 ∨ k = 1 ∨ k = 2 ∨ k = 3 ∨ k = 4 ∨ k = 5 ∨ k = 6 ∨ k = 7 ∨ k = 8 ∨ k = 9 ∨ k = 10 ∨ k = 11 ∨ k = 12 ∨ k = 13 ∨ k = 14 ∨ k = 15 ∨ k = 16 ∨ k = 17 ∨ k = 18 ∨ k = 19 ∨ k = 20 ∨ k = 21 ∨ k = 22 ∨ k = 23 ∨ k = 24 ∨ k = 25 ∨ k = 26 ∨ k = 27 ∨ k = 28 ∨ k = 29 ∨ k = 30 ∨ k = 31 ∨ k = 32 ∨ k = 33 by omega) with rfl | rfl | rfl | rfl | rfl | rfl | rfl | rfl | rfl | rfl | rfl | rfl | rfl | rfl | rfl | rfl | rfl | rfl | rfl | rfl | rfl | rfl | rfl | rfl | rfl | rfl | rfl | rfl | rfl | rfl | rfl | rfl | rfl | rfl
  · exact wl_3 158 (by decide +kernel) (by decide +kernel)
  · exact wl_3 160 (by decide +kernel) (by decide +kernel)
  · exact wl_3 162 (by decide +kernel) (by decide +kernel)
  · exact wl_3 164 (by decide +kernel) (by decide +kernel)
  · exact wl_3 166 (by decide +kernel) (by decide +kernel)
  · exact wl_3 168 (by decide +kernel) (by decide +kernel)
  · exact wl_3 170 (by decide +kernel) (by decide +kernel)
  · exact wl_3 172 (by decide +kernel) (by decide +kernel)
  · exact wl_3 174 (by decide +kernel) (by decide +kernel)
  · exact wl_3 176 (by decide +kernel) (by decide +kernel)
  · exact wl_3 178 (by decide +kernel) (by decide +kernel)
  · exact wl_3 180 (by decide +kernel) (by decide +kernel)
  · exact wl_3 182 (by decide +kernel) (by decide +kernel)
  · exact wl_3 184 (by decide +kernel) (by decide +kernel)
  · exact wl_3 186 (by decide +kernel) (by decide +kernel)
  · exact wl_3 188 (by decide +kernel) (by decide +kernel)
  · exact wl_3 190 (by decide +kernel) (by decide +kernel)
  · exact wl_3 192 (by decide +kernel) (by decide +kernel)
  · exact wl_3 194 (by decide +kernel) (by decide +kernel)
  · exact wl_3 196 (by decide +kernel) (by decide +kernel)
  · exact wl_3 198 (by decide +kernel) (by decide +kernel)
  · exact wl_3 200 (by decide +kernel) (by decide +kernel)
  · exact wl_3 202 (by decide +kernel) (by decide +kernel)
  · exact wl_3 204 (by decide +kernel) (by decide +kernel)
  · exact wl_3 206 (by decide +kernel) (by decide +kernel)
  · exact wl_3 208 (by decide +kernel) (by decide +kernel)
  · exact wl_3 210 (by decide +kernel) (by decide +kernel)
  · exact wl_3 212 (by decide +kernel) (by decide +kernel)
  · exact wl_3 214 (by decide +kernel) (by decide +kernel)
  · exact wl_3 216 (by decide +kernel) (by decide +kernel)
  · exact wl_3 218 (by decide +kernel) (by decide +kernel)
  · exact wl_3 220 (by decide +kernel) (by decide +kernel)
  · exact wl_3 222 (by decide +kernel) (by decide +kernel)
  · exact wl_3 224 (by decide +kernel) (by decide +kernel)

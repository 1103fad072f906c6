abbrev HSt : Type := (Nat → Int32) × (Nat → Int32) × (Nat → Int32) × (Nat → Int32) × (Nat → Int32) × (Nat → Int32) × (Int32) × (Int32) × (Int32)
def h_dust (S : HSt) : Nat → Int32 := S.1
def h_memories (S : HSt) : Nat → Int32 := S.2.1
def h_kinds (S : HSt) : Nat → Int32 := S.2.2.1
def h_held (S : HSt) : Nat → Int32 := S.2.2.2.1
def h_grimes (S : HSt) : Nat → Int32 := S.2.2.2.2.1
def h_rounds (S : HSt) : Nat → Int32 := S.2.2.2.2.2.1
def h_day (S : HSt) : Int32 := S.2.2.2.2.2.2.1
def h_fall (S : HSt) : Int32 := S.2.2.2.2.2.2.2.1
def h_dusters (S : HSt) : Int32 := S.2.2.2.2.2.2.2.2
def h_dust_s (S : HSt) (v : Nat → Int32) : HSt := (v, S.2.1, S.2.2.1, S.2.2.2.1, S.2.2.2.2.1, S.2.2.2.2.2.1, S.2.2.2.2.2.2.1, S.2.2.2.2.2.2.2.1, S.2.2.2.2.2.2.2.2)
def h_memories_s (S : HSt) (v : Nat → Int32) : HSt := (S.1, v, S.2.2.1, S.2.2.2.1, S.2.2.2.2.1, S.2.2.2.2.2.1, S.2.2.2.2.2.2.1, S.2.2.2.2.2.2.2.1, S.2.2.2.2.2.2.2.2)
def h_kinds_s (S : HSt) (v : Nat → Int32) : HSt := (S.1, S.2.1, v, S.2.2.2.1, S.2.2.2.2.1, S.2.2.2.2.2.1, S.2.2.2.2.2.2.1, S.2.2.2.2.2.2.2.1, S.2.2.2.2.2.2.2.2)
def h_held_s (S : HSt) (v : Nat → Int32) : HSt := (S.1, S.2.1, S.2.2.1, v, S.2.2.2.2.1, S.2.2.2.2.2.1, S.2.2.2.2.2.2.1, S.2.2.2.2.2.2.2.1, S.2.2.2.2.2.2.2.2)
def h_grimes_s (S : HSt) (v : Nat → Int32) : HSt := (S.1, S.2.1, S.2.2.1, S.2.2.2.1, v, S.2.2.2.2.2.1, S.2.2.2.2.2.2.1, S.2.2.2.2.2.2.2.1, S.2.2.2.2.2.2.2.2)
def h_rounds_s (S : HSt) (v : Nat → Int32) : HSt := (S.1, S.2.1, S.2.2.1, S.2.2.2.1, S.2.2.2.2.1, v, S.2.2.2.2.2.2.1, S.2.2.2.2.2.2.2.1, S.2.2.2.2.2.2.2.2)
def h_day_s (S : HSt) (v : Int32) : HSt := (S.1, S.2.1, S.2.2.1, S.2.2.2.1, S.2.2.2.2.1, S.2.2.2.2.2.1, v, S.2.2.2.2.2.2.2.1, S.2.2.2.2.2.2.2.2)
def h_fall_s (S : HSt) (v : Int32) : HSt := (S.1, S.2.1, S.2.2.1, S.2.2.2.1, S.2.2.2.2.1, S.2.2.2.2.2.1, S.2.2.2.2.2.2.1, v, S.2.2.2.2.2.2.2.2)
def h_dusters_s (S : HSt) (v : Int32) : HSt := (S.1, S.2.1, S.2.2.1, S.2.2.2.1, S.2.2.2.2.1, S.2.2.2.2.2.1, S.2.2.2.2.2.2.1, S.2.2.2.2.2.2.2.1, v)
abbrev TSt : Type := (Nat → Int32) × (Int32) × (Int32) × (Int32) × (Int32) × (Int32) × (Int32)
def t_bytes (S : TSt) : Nat → Int32 := S.1
def t_length (S : TSt) : Int32 := S.2.1
def t_token (S : TSt) : Int32 := S.2.2.1
def t_value (S : TSt) : Int32 := S.2.2.2.1
def t_start (S : TSt) : Int32 := S.2.2.2.2.1
def t_end (S : TSt) : Int32 := S.2.2.2.2.2.1
def t_memories (S : TSt) : Int32 := S.2.2.2.2.2.2
def t_bytes_s (S : TSt) (v : Nat → Int32) : TSt := (v, S.2.1, S.2.2.1, S.2.2.2.1, S.2.2.2.2.1, S.2.2.2.2.2.1, S.2.2.2.2.2.2)
def t_length_s (S : TSt) (v : Int32) : TSt := (S.1, v, S.2.2.1, S.2.2.2.1, S.2.2.2.2.1, S.2.2.2.2.2.1, S.2.2.2.2.2.2)
def t_token_s (S : TSt) (v : Int32) : TSt := (S.1, S.2.1, v, S.2.2.2.1, S.2.2.2.2.1, S.2.2.2.2.2.1, S.2.2.2.2.2.2)
def t_value_s (S : TSt) (v : Int32) : TSt := (S.1, S.2.1, S.2.2.1, v, S.2.2.2.2.1, S.2.2.2.2.2.1, S.2.2.2.2.2.2)
def t_start_s (S : TSt) (v : Int32) : TSt := (S.1, S.2.1, S.2.2.1, S.2.2.2.1, v, S.2.2.2.2.2.1, S.2.2.2.2.2.2)
def t_end_s (S : TSt) (v : Int32) : TSt := (S.1, S.2.1, S.2.2.1, S.2.2.2.1, S.2.2.2.2.1, v, S.2.2.2.2.2.2)
def t_memories_s (S : TSt) (v : Int32) : TSt := (S.1, S.2.1, S.2.2.1, S.2.2.2.1, S.2.2.2.2.1, S.2.2.2.2.2.1, v)
abbrev SSt : Type := (Nat → Int64) × (Int32) × (Int32)
def s_numbers (S : SSt) : Nat → Int64 := S.1
def s_bits (S : SSt) : Int32 := S.2.1
def s_size (S : SSt) : Int32 := S.2.2
def s_numbers_s (S : SSt) (v : Nat → Int64) : SSt := (v, S.2.1, S.2.2)
def s_bits_s (S : SSt) (v : Int32) : SSt := (S.1, v, S.2.2)
def s_size_s (S : SSt) (v : Int32) : SSt := (S.1, S.2.1, v)
abbrev XSt : Type := (HSt) × (HSt) × (HSt) × (HSt) × (TSt) × (Nat → SSt) × (Nat → Int32) × (Int32)
def x_live (S : XSt) : HSt := S.1
def x_kept (S : XSt) : HSt := S.2.1
def x_ahead (S : XSt) : HSt := S.2.2.1
def x_aside (S : XSt) : HSt := S.2.2.2.1
def x_tape (S : XSt) : TSt := S.2.2.2.2.1
def x_sh (S : XSt) : Nat → SSt := S.2.2.2.2.2.1
def x_found (S : XSt) : Nat → Int32 := S.2.2.2.2.2.2.1
def x_kp (S : XSt) : Int32 := S.2.2.2.2.2.2.2
def x_live_s (S : XSt) (v : HSt) : XSt := (v, S.2.1, S.2.2.1, S.2.2.2.1, S.2.2.2.2.1, S.2.2.2.2.2.1, S.2.2.2.2.2.2.1, S.2.2.2.2.2.2.2)
def x_kept_s (S : XSt) (v : HSt) : XSt := (S.1, v, S.2.2.1, S.2.2.2.1, S.2.2.2.2.1, S.2.2.2.2.2.1, S.2.2.2.2.2.2.1, S.2.2.2.2.2.2.2)
def x_ahead_s (S : XSt) (v : HSt) : XSt := (S.1, S.2.1, v, S.2.2.2.1, S.2.2.2.2.1, S.2.2.2.2.2.1, S.2.2.2.2.2.2.1, S.2.2.2.2.2.2.2)
def x_aside_s (S : XSt) (v : HSt) : XSt := (S.1, S.2.1, S.2.2.1, v, S.2.2.2.2.1, S.2.2.2.2.2.1, S.2.2.2.2.2.2.1, S.2.2.2.2.2.2.2)
def x_tape_s (S : XSt) (v : TSt) : XSt := (S.1, S.2.1, S.2.2.1, S.2.2.2.1, v, S.2.2.2.2.2.1, S.2.2.2.2.2.2.1, S.2.2.2.2.2.2.2)
def x_sh_s (S : XSt) (v : Nat → SSt) : XSt := (S.1, S.2.1, S.2.2.1, S.2.2.2.1, S.2.2.2.2.1, v, S.2.2.2.2.2.2.1, S.2.2.2.2.2.2.2)
def x_found_s (S : XSt) (v : Nat → Int32) : XSt := (S.1, S.2.1, S.2.2.1, S.2.2.2.1, S.2.2.2.2.1, S.2.2.2.2.2.1, v, S.2.2.2.2.2.2.2)
def x_kp_s (S : XSt) (v : Int32) : XSt := (S.1, S.2.1, S.2.2.1, S.2.2.2.1, S.2.2.2.2.1, S.2.2.2.2.2.1, S.2.2.2.2.2.2.1, v)
abbrev MSt : Type := (Nat → Int32) × (Nat → Int32) × (Nat → Int32) × (Nat → Int32) × (Nat → Int32) × (Int32) × (Int32) × (Int32) × (Int32) × (Int64) × (Int32) × (Int32) × (Nat → Int32) × (Nat → Int32) × (Nat → Int64) × (Nat → Int64) × (Nat → Int32) × (Nat → Int32) × (Int32)
def m_row (S : MSt) : Nat → Int32 := S.1
def m_found (S : MSt) : Nat → Int32 := S.2.1
def m_tried (S : MSt) : Nat → Int32 := S.2.2.1
def m_before1 (S : MSt) : Nat → Int32 := S.2.2.2.1
def m_tape (S : MSt) : Nat → Int32 := S.2.2.2.2.1
def m_tapeMany (S : MSt) : Int32 := S.2.2.2.2.2.1
def m_sort (S : MSt) : Int32 := S.2.2.2.2.2.2.1
def m_begins (S : MSt) : Int32 := S.2.2.2.2.2.2.2.1
def m_tokenEnds (S : MSt) : Int32 := S.2.2.2.2.2.2.2.2.1
def m_word (S : MSt) : Int64 := S.2.2.2.2.2.2.2.2.2.1
def m_value (S : MSt) : Int32 := S.2.2.2.2.2.2.2.2.2.2.1
def m_good (S : MSt) : Int32 := S.2.2.2.2.2.2.2.2.2.2.2.1
def m_bitsOf (S : MSt) : Nat → Int32 := S.2.2.2.2.2.2.2.2.2.2.2.2.1
def m_sizeOf (S : MSt) : Nat → Int32 := S.2.2.2.2.2.2.2.2.2.2.2.2.2.1
def m_sheets (S : MSt) : Nat → Int64 := S.2.2.2.2.2.2.2.2.2.2.2.2.2.2.1
def m_lent (S : MSt) : Nat → Int64 := S.2.2.2.2.2.2.2.2.2.2.2.2.2.2.2.1
def m_image (S : MSt) : Nat → Int32 := S.2.2.2.2.2.2.2.2.2.2.2.2.2.2.2.2.1
def m_before (S : MSt) : Nat → Int32 := S.2.2.2.2.2.2.2.2.2.2.2.2.2.2.2.2.2.1
def m_isKept (S : MSt) : Int32 := S.2.2.2.2.2.2.2.2.2.2.2.2.2.2.2.2.2.2
def m_row_s (S : MSt) (v : Nat → Int32) : MSt := (v, S.2.1, S.2.2.1, S.2.2.2.1, S.2.2.2.2.1, S.2.2.2.2.2.1, S.2.2.2.2.2.2.1, S.2.2.2.2.2.2.2.1, S.2.2.2.2.2.2.2.2.1, S.2.2.2.2.2.2.2.2.2.1, S.2.2.2.2.2.2.2.2.2.2.1, S.2.2.2.2.2.2.2.2.2.2.2.1, S.2.2.2.2.2.2.2.2.2.2.2.2.1, S.2.2.2.2.2.2.2.2.2.2.2.2.2.1, S.2.2.2.2.2.2.2.2.2.2.2.2.2.2.1, S.2.2.2.2.2.2.2.2.2.2.2.2.2.2.2.1, S.2.2.2.2.2.2.2.2.2.2.2.2.2.2.2.2.1, S.2.2.2.2.2.2.2.2.2.2.2.2.2.2.2.2.2.1, S.2.2.2.2.2.2.2.2.2.2.2.2.2.2.2.2.2.2)
def m_found_s (S : MSt) (v : Nat → Int32) : MSt := (S.1, v, S.2.2.1, S.2.2.2.1, S.2.2.2.2.1, S.2.2.2.2.2.1, S.2.2.2.2.2.2.1, S.2.2.2.2.2.2.2.1, S.2.2.2.2.2.2.2.2.1, S.2.2.2.2.2.2.2.2.2.1, S.2.2.2.2.2.2.2.2.2.2.1, S.2.2.2.2.2.2.2.2.2.2.2.1, S.2.2.2.2.2.2.2.2.2.2.2.2.1, S.2.2.2.2.2.2.2.2.2.2.2.2.2.1, S.2.2.2.2.2.2.2.2.2.2.2.2.2.2.1, S.2.2.2.2.2.2.2.2.2.2.2.2.2.2.2.1, S.2.2.2.2.2.2.2.2.2.2.2.2.2.2.2.2.1, S.2.2.2.2.2.2.2.2.2.2.2.2.2.2.2.2.2.1, S.2.2.2.2.2.2.2.2.2.2.2.2.2.2.2.2.2.2)
def m_tried_s (S : MSt) (v : Nat → Int32) : MSt := (S.1, S.2.1, v, S.2.2.2.1, S.2.2.2.2.1, S.2.2.2.2.2.1, S.2.2.2.2.2.2.1, S.2.2.2.2.2.2.2.1, S.2.2.2.2.2.2.2.2.1, S.2.2.2.2.2.2.2.2.2.1, S.2.2.2.2.2.2.2.2.2.2.1, S.2.2.2.2.2.2.2.2.2.2.2.1, S.2.2.2.2.2.2.2.2.2.2.2.2.1, S.2.2.2.2.2.2.2.2.2.2.2.2.2.1, S.2.2.2.2.2.2.2.2.2.2.2.2.2.2.1, S.2.2.2.2.2.2.2.2.2.2.2.2.2.2.2.1, S.2.2.2.2.2.2.2.2.2.2.2.2.2.2.2.2.1, S.2.2.2.2.2.2.2.2.2.2.2.2.2.2.2.2.2.1, S.2.2.2.2.2.2.2.2.2.2.2.2.2.2.2.2.2.2)
def m_before1_s (S : MSt) (v : Nat → Int32) : MSt := (S.1, S.2.1, S.2.2.1, v, S.2.2.2.2.1, S.2.2.2.2.2.1, S.2.2.2.2.2.2.1, S.2.2.2.2.2.2.2.1, S.2.2.2.2.2.2.2.2.1, S.2.2.2.2.2.2.2.2.2.1, S.2.2.2.2.2.2.2.2.2.2.1, S.2.2.2.2.2.2.2.2.2.2.2.1, S.2.2.2.2.2.2.2.2.2.2.2.2.1, S.2.2.2.2.2.2.2.2.2.2.2.2.2.1, S.2.2.2.2.2.2.2.2.2.2.2.2.2.2.1, S.2.2.2.2.2.2.2.2.2.2.2.2.2.2.2.1, S.2.2.2.2.2.2.2.2.2.2.2.2.2.2.2.2.1, S.2.2.2.2.2.2.2.2.2.2.2.2.2.2.2.2.2.1, S.2.2.2.2.2.2.2.2.2.2.2.2.2.2.2.2.2.2)
def m_tape_s (S : MSt) (v : Nat → Int32) : MSt := (S.1, S.2.1, S.2.2.1, S.2.2.2.1, v, S.2.2.2.2.2.1, S.2.2.2.2.2.2.1, S.2.2.2.2.2.2.2.1, S.2.2.2.2.2.2.2.2.1, S.2.2.2.2.2.2.2.2.2.1, S.2.2.2.2.2.2.2.2.2.2.1, S.2.2.2.2.2.2.2.2.2.2.2.1, S.2.2.2.2.2.2.2.2.2.2.2.2.1, S.2.2.2.2.2.2.2.2.2.2.2.2.2.1, S.2.2.2.2.2.2.2.2.2.2.2.2.2.2.1, S.2.2.2.2.2.2.2.2.2.2.2.2.2.2.2.1, S.2.2.2.2.2.2.2.2.2.2.2.2.2.2.2.2.1, S.2.2.2.2.2.2.2.2.2.2.2.2.2.2.2.2.2.1, S.2.2.2.2.2.2.2.2.2.2.2.2.2.2.2.2.2.2)
def m_tapeMany_s (S : MSt) (v : Int32) : MSt := (S.1, S.2.1, S.2.2.1, S.2.2.2.1, S.2.2.2.2.1, v, S.2.2.2.2.2.2.1, S.2.2.2.2.2.2.2.1, S.2.2.2.2.2.2.2.2.1, S.2.2.2.2.2.2.2.2.2.1, S.2.2.2.2.2.2.2.2.2.2.1, S.2.2.2.2.2.2.2.2.2.2.2.1, S.2.2.2.2.2.2.2.2.2.2.2.2.1, S.2.2.2.2.2.2.2.2.2.2.2.2.2.1, S.2.2.2.2.2.2.2.2.2.2.2.2.2.2.1, S.2.2.2.2.2.2.2.2.2.2.2.2.2.2.2.1, S.2.2.2.2.2.2.2.2.2.2.2.2.2.2.2.2.1, S.2.2.2.2.2.2.2.2.2.2.2.2.2.2.2.2.2.1, S.2.2.2.2.2.2.2.2.2.2.2.2.2.2.2.2.2.2)
def m_sort_s (S : MSt) (v : Int32) : MSt := (S.1, S.2.1, S.2.2.1, S.2.2.2.1, S.2.2.2.2.1, S.2.2.2.2.2.1, v, S.2.2.2.2.2.2.2.1, S.2.2.2.2.2.2.2.2.1, S.2.2.2.2.2.2.2.2.2.1, S.2.2.2.2.2.2.2.2.2.2.1, S.2.2.2.2.2.2.2.2.2.2.2.1, S.2.2.2.2.2.2.2.2.2.2.2.2.1, S.2.2.2.2.2.2.2.2.2.2.2.2.2.1, S.2.2.2.2.2.2.2.2.2.2.2.2.2.2.1, S.2.2.2.2.2.2.2.2.2.2.2.2.2.2.2.1, S.2.2.2.2.2.2.2.2.2.2.2.2.2.2.2.2.1, S.2.2.2.2.2.2.2.2.2.2.2.2.2.2.2.2.2.1, S.2.2.2.2.2.2.2.2.2.2.2.2.2.2.2.2.2.2)
def m_begins_s (S : MSt) (v : Int32) : MSt := (S.1, S.2.1, S.2.2.1, S.2.2.2.1, S.2.2.2.2.1, S.2.2.2.2.2.1, S.2.2.2.2.2.2.1, v, S.2.2.2.2.2.2.2.2.1, S.2.2.2.2.2.2.2.2.2.1, S.2.2.2.2.2.2.2.2.2.2.1, S.2.2.2.2.2.2.2.2.2.2.2.1, S.2.2.2.2.2.2.2.2.2.2.2.2.1, S.2.2.2.2.2.2.2.2.2.2.2.2.2.1, S.2.2.2.2.2.2.2.2.2.2.2.2.2.2.1, S.2.2.2.2.2.2.2.2.2.2.2.2.2.2.2.1, S.2.2.2.2.2.2.2.2.2.2.2.2.2.2.2.2.1, S.2.2.2.2.2.2.2.2.2.2.2.2.2.2.2.2.2.1, S.2.2.2.2.2.2.2.2.2.2.2.2.2.2.2.2.2.2)
def m_tokenEnds_s (S : MSt) (v : Int32) : MSt := (S.1, S.2.1, S.2.2.1, S.2.2.2.1, S.2.2.2.2.1, S.2.2.2.2.2.1, S.2.2.2.2.2.2.1, S.2.2.2.2.2.2.2.1, v, S.2.2.2.2.2.2.2.2.2.1, S.2.2.2.2.2.2.2.2.2.2.1, S.2.2.2.2.2.2.2.2.2.2.2.1, S.2.2.2.2.2.2.2.2.2.2.2.2.1, S.2.2.2.2.2.2.2.2.2.2.2.2.2.1, S.2.2.2.2.2.2.2.2.2.2.2.2.2.2.1, S.2.2.2.2.2.2.2.2.2.2.2.2.2.2.2.1, S.2.2.2.2.2.2.2.2.2.2.2.2.2.2.2.2.1, S.2.2.2.2.2.2.2.2.2.2.2.2.2.2.2.2.2.1, S.2.2.2.2.2.2.2.2.2.2.2.2.2.2.2.2.2.2)
def m_word_s (S : MSt) (v : Int64) : MSt := (S.1, S.2.1, S.2.2.1, S.2.2.2.1, S.2.2.2.2.1, S.2.2.2.2.2.1, S.2.2.2.2.2.2.1, S.2.2.2.2.2.2.2.1, S.2.2.2.2.2.2.2.2.1, v, S.2.2.2.2.2.2.2.2.2.2.1, S.2.2.2.2.2.2.2.2.2.2.2.1, S.2.2.2.2.2.2.2.2.2.2.2.2.1, S.2.2.2.2.2.2.2.2.2.2.2.2.2.1, S.2.2.2.2.2.2.2.2.2.2.2.2.2.2.1, S.2.2.2.2.2.2.2.2.2.2.2.2.2.2.2.1, S.2.2.2.2.2.2.2.2.2.2.2.2.2.2.2.2.1, S.2.2.2.2.2.2.2.2.2.2.2.2.2.2.2.2.2.1, S.2.2.2.2.2.2.2.2.2.2.2.2.2.2.2.2.2.2)
def m_value_s (S : MSt) (v : Int32) : MSt := (S.1, S.2.1, S.2.2.1, S.2.2.2.1, S.2.2.2.2.1, S.2.2.2.2.2.1, S.2.2.2.2.2.2.1, S.2.2.2.2.2.2.2.1, S.2.2.2.2.2.2.2.2.1, S.2.2.2.2.2.2.2.2.2.1, v, S.2.2.2.2.2.2.2.2.2.2.2.1, S.2.2.2.2.2.2.2.2.2.2.2.2.1, S.2.2.2.2.2.2.2.2.2.2.2.2.2.1, S.2.2.2.2.2.2.2.2.2.2.2.2.2.2.1, S.2.2.2.2.2.2.2.2.2.2.2.2.2.2.2.1, S.2.2.2.2.2.2.2.2.2.2.2.2.2.2.2.2.1, S.2.2.2.2.2.2.2.2.2.2.2.2.2.2.2.2.2.1, S.2.2.2.2.2.2.2.2.2.2.2.2.2.2.2.2.2.2)
def m_good_s (S : MSt) (v : Int32) : MSt := (S.1, S.2.1, S.2.2.1, S.2.2.2.1, S.2.2.2.2.1, S.2.2.2.2.2.1, S.2.2.2.2.2.2.1, S.2.2.2.2.2.2.2.1, S.2.2.2.2.2.2.2.2.1, S.2.2.2.2.2.2.2.2.2.1, S.2.2.2.2.2.2.2.2.2.2.1, v, S.2.2.2.2.2.2.2.2.2.2.2.2.1, S.2.2.2.2.2.2.2.2.2.2.2.2.2.1, S.2.2.2.2.2.2.2.2.2.2.2.2.2.2.1, S.2.2.2.2.2.2.2.2.2.2.2.2.2.2.2.1, S.2.2.2.2.2.2.2.2.2.2.2.2.2.2.2.2.1, S.2.2.2.2.2.2.2.2.2.2.2.2.2.2.2.2.2.1, S.2.2.2.2.2.2.2.2.2.2.2.2.2.2.2.2.2.2)
def m_bitsOf_s (S : MSt) (v : Nat → Int32) : MSt := (S.1, S.2.1, S.2.2.1, S.2.2.2.1, S.2.2.2.2.1, S.2.2.2.2.2.1, S.2.2.2.2.2.2.1, S.2.2.2.2.2.2.2.1, S.2.2.2.2.2.2.2.2.1, S.2.2.2.2.2.2.2.2.2.1, S.2.2.2.2.2.2.2.2.2.2.1, S.2.2.2.2.2.2.2.2.2.2.2.1, v, S.2.2.2.2.2.2.2.2.2.2.2.2.2.1, S.2.2.2.2.2.2.2.2.2.2.2.2.2.2.1, S.2.2.2.2.2.2.2.2.2.2.2.2.2.2.2.1, S.2.2.2.2.2.2.2.2.2.2.2.2.2.2.2.2.1, S.2.2.2.2.2.2.2.2.2.2.2.2.2.2.2.2.2.1, S.2.2.2.2.2.2.2.2.2.2.2.2.2.2.2.2.2.2)
def m_sizeOf_s (S : MSt) (v : Nat → Int32) : MSt := (S.1, S.2.1, S.2.2.1, S.2.2.2.1, S.2.2.2.2.1, S.2.2.2.2.2.1, S.2.2.2.2.2.2.1, S.2.2.2.2.2.2.2.1, S.2.2.2.2.2.2.2.2.1, S.2.2.2.2.2.2.2.2.2.1, S.2.2.2.2.2.2.2.2.2.2.1, S.2.2.2.2.2.2.2.2.2.2.2.1, S.2.2.2.2.2.2.2.2.2.2.2.2.1, v, S.2.2.2.2.2.2.2.2.2.2.2.2.2.2.1, S.2.2.2.2.2.2.2.2.2.2.2.2.2.2.2.1, S.2.2.2.2.2.2.2.2.2.2.2.2.2.2.2.2.1, S.2.2.2.2.2.2.2.2.2.2.2.2.2.2.2.2.2.1, S.2.2.2.2.2.2.2.2.2.2.2.2.2.2.2.2.2.2)
def m_sheets_s (S : MSt) (v : Nat → Int64) : MSt := (S.1, S.2.1, S.2.2.1, S.2.2.2.1, S.2.2.2.2.1, S.2.2.2.2.2.1, S.2.2.2.2.2.2.1, S.2.2.2.2.2.2.2.1, S.2.2.2.2.2.2.2.2.1, S.2.2.2.2.2.2.2.2.2.1, S.2.2.2.2.2.2.2.2.2.2.1, S.2.2.2.2.2.2.2.2.2.2.2.1, S.2.2.2.2.2.2.2.2.2.2.2.2.1, S.2.2.2.2.2.2.2.2.2.2.2.2.2.1, v, S.2.2.2.2.2.2.2.2.2.2.2.2.2.2.2.1, S.2.2.2.2.2.2.2.2.2.2.2.2.2.2.2.2.1, S.2.2.2.2.2.2.2.2.2.2.2.2.2.2.2.2.2.1, S.2.2.2.2.2.2.2.2.2.2.2.2.2.2.2.2.2.2)
def m_lent_s (S : MSt) (v : Nat → Int64) : MSt := (S.1, S.2.1, S.2.2.1, S.2.2.2.1, S.2.2.2.2.1, S.2.2.2.2.2.1, S.2.2.2.2.2.2.1, S.2.2.2.2.2.2.2.1, S.2.2.2.2.2.2.2.2.1, S.2.2.2.2.2.2.2.2.2.1, S.2.2.2.2.2.2.2.2.2.2.1, S.2.2.2.2.2.2.2.2.2.2.2.1, S.2.2.2.2.2.2.2.2.2.2.2.2.1, S.2.2.2.2.2.2.2.2.2.2.2.2.2.1, S.2.2.2.2.2.2.2.2.2.2.2.2.2.2.1, v, S.2.2.2.2.2.2.2.2.2.2.2.2.2.2.2.2.1, S.2.2.2.2.2.2.2.2.2.2.2.2.2.2.2.2.2.1, S.2.2.2.2.2.2.2.2.2.2.2.2.2.2.2.2.2.2)
def m_image_s (S : MSt) (v : Nat → Int32) : MSt := (S.1, S.2.1, S.2.2.1, S.2.2.2.1, S.2.2.2.2.1, S.2.2.2.2.2.1, S.2.2.2.2.2.2.1, S.2.2.2.2.2.2.2.1, S.2.2.2.2.2.2.2.2.1, S.2.2.2.2.2.2.2.2.2.1, S.2.2.2.2.2.2.2.2.2.2.1, S.2.2.2.2.2.2.2.2.2.2.2.1, S.2.2.2.2.2.2.2.2.2.2.2.2.1, S.2.2.2.2.2.2.2.2.2.2.2.2.2.1, S.2.2.2.2.2.2.2.2.2.2.2.2.2.2.1, S.2.2.2.2.2.2.2.2.2.2.2.2.2.2.2.1, v, S.2.2.2.2.2.2.2.2.2.2.2.2.2.2.2.2.2.1, S.2.2.2.2.2.2.2.2.2.2.2.2.2.2.2.2.2.2)
def m_before_s (S : MSt) (v : Nat → Int32) : MSt := (S.1, S.2.1, S.2.2.1, S.2.2.2.1, S.2.2.2.2.1, S.2.2.2.2.2.1, S.2.2.2.2.2.2.1, S.2.2.2.2.2.2.2.1, S.2.2.2.2.2.2.2.2.1, S.2.2.2.2.2.2.2.2.2.1, S.2.2.2.2.2.2.2.2.2.2.1, S.2.2.2.2.2.2.2.2.2.2.2.1, S.2.2.2.2.2.2.2.2.2.2.2.2.1, S.2.2.2.2.2.2.2.2.2.2.2.2.2.1, S.2.2.2.2.2.2.2.2.2.2.2.2.2.2.1, S.2.2.2.2.2.2.2.2.2.2.2.2.2.2.2.1, S.2.2.2.2.2.2.2.2.2.2.2.2.2.2.2.2.1, v, S.2.2.2.2.2.2.2.2.2.2.2.2.2.2.2.2.2.2)
def m_isKept_s (S : MSt) (v : Int32) : MSt := (S.1, S.2.1, S.2.2.1, S.2.2.2.1, S.2.2.2.2.1, S.2.2.2.2.2.1, S.2.2.2.2.2.2.1, S.2.2.2.2.2.2.2.1, S.2.2.2.2.2.2.2.2.1, S.2.2.2.2.2.2.2.2.2.1, S.2.2.2.2.2.2.2.2.2.2.1, S.2.2.2.2.2.2.2.2.2.2.2.1, S.2.2.2.2.2.2.2.2.2.2.2.2.1, S.2.2.2.2.2.2.2.2.2.2.2.2.2.1, S.2.2.2.2.2.2.2.2.2.2.2.2.2.2.1, S.2.2.2.2.2.2.2.2.2.2.2.2.2.2.2.1, S.2.2.2.2.2.2.2.2.2.2.2.2.2.2.2.2.1, S.2.2.2.2.2.2.2.2.2.2.2.2.2.2.2.2.2.1, v)
def hW (β : zz_B) (h : Nat → Nat) (S : HSt) : va_W := [(h 0, .inr (0, [.ref (h 1), .ref (h 2), .ref (h 3), .ref (h 4), .ref (h 5), .ref (h 6), .int (h_day S), .int (h_fall S), .int (h_dusters S)])), (h 1, .inl (β.2.2.1.1, 8, .inl (h_dust S))), (h 2, .inl (β.2.2.1.1, 8, .inl (h_memories S))), (h 3, .inl (β.2.2.1.1, 8, .inl (h_kinds S))), (h 4, .inl (β.2.2.1.1, 8, .inl (h_held S))), (h 5, .inl (β.2.2.1.1, 8, .inl (h_grimes S))), (h 6, .inl (β.2.2.1.1, 8, .inl (h_rounds S)))]
def sW (β : zz_B) (c : Nat → Nat) (S : SSt) : va_W := [(c 0, .inr (1, [.ref (c 1), .int (s_bits S), .int (s_size S)])), (c 1, .inl (β.2.2.1.2.1, 40, .inr (.inl (s_numbers S))))]
def tW (β : zz_B) (t : Nat → Nat) (S : TSt) : va_W := [(t 0, .inr (2, [.ref (t 1), .int (t_length S), .int (t_token S), .int (t_value S), .int (t_start S), .int (t_end S), .int (t_memories S)])), (t 1, .inl (β.2.2.1.1, 120, .inl (t_bytes S)))]
def mW (β : zz_B) (a : Nat → Nat) (S : MSt) : va_W := [(a 0, .inr (4, [.ref (a 1), .ref (a 2), .ref (a 3), .ref (a 4), .ref (a 5), .int (m_tapeMany S), .int (m_sort S), .int (m_begins S), .int (m_tokenEnds S), .long (m_word S), .int (m_value S), .int (m_good S), .ref (a 6), .ref (a 7), .ref (a 8), .ref (a 9), .ref (a 10), .ref (a 11), .int (m_isKept S)])), (a 1, .inl (β.2.2.1.1, 51, .inl (m_row S))), (a 2, .inl (β.2.2.1.1, 7, .inl (m_found S))), (a 3, .inl (β.2.2.1.1, 51, .inl (m_tried S))), (a 4, .inl (β.2.2.1.1, 51, .inl (m_before1 S))), (a 5, .inl (β.2.2.1.1, 120, .inl (m_tape S))), (a 6, .inl (β.2.2.1.1, 4, .inl (m_bitsOf S))), (a 7, .inl (β.2.2.1.1, 4, .inl (m_sizeOf S))), (a 8, .inl (β.2.2.1.2.1, 160, .inr (.inl (m_sheets S)))), (a 9, .inl (β.2.2.1.2.1, 40, .inr (.inl (m_lent S)))), (a 10, .inl (β.2.2.1.1, 51, .inl (m_image S))), (a 11, .inl (β.2.2.1.1, 51, .inl (m_before S)))]
def thW (β : zz_B) (t h : Nat → Nat) (S : TSt × HSt) : va_W := tW β t S.1 ++ hW β h S.2
def hhW (β : zz_B) (h o : Nat → Nat) (S : HSt × HSt) : va_W := hW β h S.1 ++ hW β o S.2
def x0W (β : zz_B) (b : Nat → Nat) (v : Int32) : va_W := [(b 0, .inr (3, [.ref (b 1), .ref (b 8), .ref (b 15), .ref (b 22), .ref (b 29), .ref (b 31), .ref (b 40), .int v]))]
def xsF (b : Nat → Nat) : Nat → Option Nat := fun i => if i < 4 then some (b (32 + 2 * i)) else none
def xsW (β : zz_B) (b : Nat → Nat) : va_W := [(b 31, .inl (β.2.2.1.2.2, 4, .inr (.inr (.inr (.inr (xsF b))))))]
def xfW (β : zz_B) (b : Nat → Nat) (f : Nat → Int32) : va_W := [(b 40, .inl (β.2.2.1.1, 7, .inl f))]
def zupd {α : Type} (f : Nat → α) (k : Nat) (v : α) : Nat → α := fun j => if j = k then v else f j
def shW (β : zz_B) (b : Nat → Nat) (S : XSt) (k : Nat) : va_W := sW β (fun i => b (32 + 2 * k + i)) (x_sh S k)
def xW (β : zz_B) (b : Nat → Nat) (S : XSt) : va_W := x0W β b (x_kp S) ++ (hW β (fun i => b (1 + i)) (x_live S) ++ (hW β (fun i => b (8 + i)) (x_kept S) ++ (hW β (fun i => b (15 + i)) (x_ahead S) ++ (hW β (fun i => b (22 + i)) (x_aside S) ++ (tW β (fun i => b (29 + i)) (x_tape S) ++ (xsW β b ++ (shW β b S 0 ++ (shW β b S 1 ++ (shW β b S 2 ++ (shW β b S 3 ++ (xfW β b (x_found S))))))))))))
theorem zz_mv {A B C : va_W} : (A ++ (B ++ C)).Perm (B ++ (A ++ C)) := List.perm_append_comm_assoc A B C
theorem zz_up {A B C D : va_W} (h : B.Perm (C ++ D)) : (A ++ B).Perm (C ++ (A ++ D)) := (List.Perm.append_left A h).trans zz_mv
theorem pmX_live (β : zz_B) (b : Nat → Nat) (S : XSt) : (xW β b S).Perm ((hW β (fun i => b (1 + i)) (x_live S)) ++ (x0W β b (x_kp S) ++ (hW β (fun i => b (8 + i)) (x_kept S) ++ (hW β (fun i => b (15 + i)) (x_ahead S) ++ (hW β (fun i => b (22 + i)) (x_aside S) ++ (tW β (fun i => b (29 + i)) (x_tape S) ++ (xsW β b ++ (shW β b S 0 ++ (shW β b S 1 ++ (shW β b S 2 ++ (shW β b S 3 ++ (xfW β b (x_found S))))))))))))) := by
  exact (zz_up (List.Perm.refl _))
theorem pmX_kept (β : zz_B) (b : Nat → Nat) (S : XSt) : (xW β b S).Perm ((hW β (fun i => b (8 + i)) (x_kept S)) ++ (x0W β b (x_kp S) ++ (hW β (fun i => b (1 + i)) (x_live S) ++ (hW β (fun i => b (15 + i)) (x_ahead S) ++ (hW β (fun i => b (22 + i)) (x_aside S) ++ (tW β (fun i => b (29 + i)) (x_tape S) ++ (xsW β b ++ (shW β b S 0 ++ (shW β b S 1 ++ (shW β b S 2 ++ (shW β b S 3 ++ (xfW β b (x_found S))))))))))))) := by
  exact (zz_up (zz_up (List.Perm.refl _)))
theorem pmX_ahead (β : zz_B) (b : Nat → Nat) (S : XSt) : (xW β b S).Perm ((hW β (fun i => b (15 + i)) (x_ahead S)) ++ (x0W β b (x_kp S) ++ (hW β (fun i => b (1 + i)) (x_live S) ++ (hW β (fun i => b (8 + i)) (x_kept S) ++ (hW β (fun i => b (22 + i)) (x_aside S) ++ (tW β (fun i => b (29 + i)) (x_tape S) ++ (xsW β b ++ (shW β b S 0 ++ (shW β b S 1 ++ (shW β b S 2 ++ (shW β b S 3 ++ (xfW β b (x_found S))))))))))))) := by
  exact (zz_up (zz_up (zz_up (List.Perm.refl _))))
theorem pmX_aside (β : zz_B) (b : Nat → Nat) (S : XSt) : (xW β b S).Perm ((hW β (fun i => b (22 + i)) (x_aside S)) ++ (x0W β b (x_kp S) ++ (hW β (fun i => b (1 + i)) (x_live S) ++ (hW β (fun i => b (8 + i)) (x_kept S) ++ (hW β (fun i => b (15 + i)) (x_ahead S) ++ (tW β (fun i => b (29 + i)) (x_tape S) ++ (xsW β b ++ (shW β b S 0 ++ (shW β b S 1 ++ (shW β b S 2 ++ (shW β b S 3 ++ (xfW β b (x_found S))))))))))))) := by
  exact (zz_up (zz_up (zz_up (zz_up (List.Perm.refl _)))))
theorem pmX_tape (β : zz_B) (b : Nat → Nat) (S : XSt) : (xW β b S).Perm ((tW β (fun i => b (29 + i)) (x_tape S)) ++ (x0W β b (x_kp S) ++ (hW β (fun i => b (1 + i)) (x_live S) ++ (hW β (fun i => b (8 + i)) (x_kept S) ++ (hW β (fun i => b (15 + i)) (x_ahead S) ++ (hW β (fun i => b (22 + i)) (x_aside S) ++ (xsW β b ++ (shW β b S 0 ++ (shW β b S 1 ++ (shW β b S 2 ++ (shW β b S 3 ++ (xfW β b (x_found S))))))))))))) := by
  exact (zz_up (zz_up (zz_up (zz_up (zz_up (List.Perm.refl _))))))
theorem pmX_sh0 (β : zz_B) (b : Nat → Nat) (S : XSt) : (xW β b S).Perm ((shW β b S 0) ++ (x0W β b (x_kp S) ++ (hW β (fun i => b (1 + i)) (x_live S) ++ (hW β (fun i => b (8 + i)) (x_kept S) ++ (hW β (fun i => b (15 + i)) (x_ahead S) ++ (hW β (fun i => b (22 + i)) (x_aside S) ++ (tW β (fun i => b (29 + i)) (x_tape S) ++ (xsW β b ++ (shW β b S 1 ++ (shW β b S 2 ++ (shW β b S 3 ++ (xfW β b (x_found S))))))))))))) := by
  exact (zz_up (zz_up (zz_up (zz_up (zz_up (zz_up (zz_up (List.Perm.refl _))))))))
theorem pmX_sh1 (β : zz_B) (b : Nat → Nat) (S : XSt) : (xW β b S).Perm ((shW β b S 1) ++ (x0W β b (x_kp S) ++ (hW β (fun i => b (1 + i)) (x_live S) ++ (hW β (fun i => b (8 + i)) (x_kept S) ++ (hW β (fun i => b (15 + i)) (x_ahead S) ++ (hW β (fun i => b (22 + i)) (x_aside S) ++ (tW β (fun i => b (29 + i)) (x_tape S) ++ (xsW β b ++ (shW β b S 0 ++ (shW β b S 2 ++ (shW β b S 3 ++ (xfW β b (x_found S))))))))))))) := by
  exact (zz_up (zz_up (zz_up (zz_up (zz_up (zz_up (zz_up (zz_up (List.Perm.refl _)))))))))
theorem pmX_sh2 (β : zz_B) (b : Nat → Nat) (S : XSt) : (xW β b S).Perm ((shW β b S 2) ++ (x0W β b (x_kp S) ++ (hW β (fun i => b (1 + i)) (x_live S) ++ (hW β (fun i => b (8 + i)) (x_kept S) ++ (hW β (fun i => b (15 + i)) (x_ahead S) ++ (hW β (fun i => b (22 + i)) (x_aside S) ++ (tW β (fun i => b (29 + i)) (x_tape S) ++ (xsW β b ++ (shW β b S 0 ++ (shW β b S 1 ++ (shW β b S 3 ++ (xfW β b (x_found S))))))))))))) := by
  exact (zz_up (zz_up (zz_up (zz_up (zz_up (zz_up (zz_up (zz_up (zz_up (List.Perm.refl _))))))))))
theorem pmX_sh3 (β : zz_B) (b : Nat → Nat) (S : XSt) : (xW β b S).Perm ((shW β b S 3) ++ (x0W β b (x_kp S) ++ (hW β (fun i => b (1 + i)) (x_live S) ++ (hW β (fun i => b (8 + i)) (x_kept S) ++ (hW β (fun i => b (15 + i)) (x_ahead S) ++ (hW β (fun i => b (22 + i)) (x_aside S) ++ (tW β (fun i => b (29 + i)) (x_tape S) ++ (xsW β b ++ (shW β b S 0 ++ (shW β b S 1 ++ (shW β b S 2 ++ (xfW β b (x_found S))))))))))))) := by
  exact (zz_up (zz_up (zz_up (zz_up (zz_up (zz_up (zz_up (zz_up (zz_up (zz_up (List.Perm.refl _)))))))))))
theorem pmX_kept_live (β : zz_B) (b : Nat → Nat) (S : XSt) : (xW β b S).Perm ((hhW β (fun i => b (8 + i)) (fun i => b (1 + i)) (x_kept S, x_live S)) ++ (x0W β b (x_kp S) ++ (hW β (fun i => b (15 + i)) (x_ahead S) ++ (hW β (fun i => b (22 + i)) (x_aside S) ++ (tW β (fun i => b (29 + i)) (x_tape S) ++ (xsW β b ++ (shW β b S 0 ++ (shW β b S 1 ++ (shW β b S 2 ++ (shW β b S 3 ++ (xfW β b (x_found S)))))))))))) := by
  refine List.Perm.trans (zz_up (List.Perm.refl _)) ?_
  refine List.Perm.trans (zz_up (zz_up (List.Perm.refl _))) ?_
  exact List.Perm.of_eq (List.append_assoc _ _ _).symm
theorem pmX_ahead_live (β : zz_B) (b : Nat → Nat) (S : XSt) : (xW β b S).Perm ((hhW β (fun i => b (15 + i)) (fun i => b (1 + i)) (x_ahead S, x_live S)) ++ (x0W β b (x_kp S) ++ (hW β (fun i => b (8 + i)) (x_kept S) ++ (hW β (fun i => b (22 + i)) (x_aside S) ++ (tW β (fun i => b (29 + i)) (x_tape S) ++ (xsW β b ++ (shW β b S 0 ++ (shW β b S 1 ++ (shW β b S 2 ++ (shW β b S 3 ++ (xfW β b (x_found S)))))))))))) := by
  refine List.Perm.trans (zz_up (List.Perm.refl _)) ?_
  refine List.Perm.trans (zz_up (zz_up (zz_up (List.Perm.refl _)))) ?_
  exact List.Perm.of_eq (List.append_assoc _ _ _).symm
theorem pmX_live_ahead (β : zz_B) (b : Nat → Nat) (S : XSt) : (xW β b S).Perm ((hhW β (fun i => b (1 + i)) (fun i => b (15 + i)) (x_live S, x_ahead S)) ++ (x0W β b (x_kp S) ++ (hW β (fun i => b (8 + i)) (x_kept S) ++ (hW β (fun i => b (22 + i)) (x_aside S) ++ (tW β (fun i => b (29 + i)) (x_tape S) ++ (xsW β b ++ (shW β b S 0 ++ (shW β b S 1 ++ (shW β b S 2 ++ (shW β b S 3 ++ (xfW β b (x_found S)))))))))))) := by
  refine List.Perm.trans (zz_up (zz_up (zz_up (List.Perm.refl _)))) ?_
  refine List.Perm.trans (zz_up (zz_up (List.Perm.refl _))) ?_
  exact List.Perm.of_eq (List.append_assoc _ _ _).symm
theorem pmX_live_kept (β : zz_B) (b : Nat → Nat) (S : XSt) : (xW β b S).Perm ((hhW β (fun i => b (1 + i)) (fun i => b (8 + i)) (x_live S, x_kept S)) ++ (x0W β b (x_kp S) ++ (hW β (fun i => b (15 + i)) (x_ahead S) ++ (hW β (fun i => b (22 + i)) (x_aside S) ++ (tW β (fun i => b (29 + i)) (x_tape S) ++ (xsW β b ++ (shW β b S 0 ++ (shW β b S 1 ++ (shW β b S 2 ++ (shW β b S 3 ++ (xfW β b (x_found S)))))))))))) := by
  refine List.Perm.trans (zz_up (zz_up (List.Perm.refl _))) ?_
  refine List.Perm.trans (zz_up (zz_up (List.Perm.refl _))) ?_
  exact List.Perm.of_eq (List.append_assoc _ _ _).symm
theorem pmX_aside_ahead (β : zz_B) (b : Nat → Nat) (S : XSt) : (xW β b S).Perm ((hhW β (fun i => b (22 + i)) (fun i => b (15 + i)) (x_aside S, x_ahead S)) ++ (x0W β b (x_kp S) ++ (hW β (fun i => b (1 + i)) (x_live S) ++ (hW β (fun i => b (8 + i)) (x_kept S) ++ (tW β (fun i => b (29 + i)) (x_tape S) ++ (xsW β b ++ (shW β b S 0 ++ (shW β b S 1 ++ (shW β b S 2 ++ (shW β b S 3 ++ (xfW β b (x_found S)))))))))))) := by
  refine List.Perm.trans (zz_up (zz_up (zz_up (List.Perm.refl _)))) ?_
  refine List.Perm.trans (zz_up (zz_up (zz_up (zz_up (List.Perm.refl _))))) ?_
  exact List.Perm.of_eq (List.append_assoc _ _ _).symm
theorem pmX_tape_ahead (β : zz_B) (b : Nat → Nat) (S : XSt) : (xW β b S).Perm ((thW β (fun i => b (29 + i)) (fun i => b (15 + i)) (x_tape S, x_ahead S)) ++ (x0W β b (x_kp S) ++ (hW β (fun i => b (1 + i)) (x_live S) ++ (hW β (fun i => b (8 + i)) (x_kept S) ++ (hW β (fun i => b (22 + i)) (x_aside S) ++ (xsW β b ++ (shW β b S 0 ++ (shW β b S 1 ++ (shW β b S 2 ++ (shW β b S 3 ++ (xfW β b (x_found S)))))))))))) := by
  refine List.Perm.trans (zz_up (zz_up (zz_up (List.Perm.refl _)))) ?_
  refine List.Perm.trans (zz_up (zz_up (zz_up (zz_up (zz_up (List.Perm.refl _)))))) ?_
  exact List.Perm.of_eq (List.append_assoc _ _ _).symm
theorem pbX_live (β : zz_B) (b : Nat → Nat) (S : XSt) (T : HSt) : ((hW β (fun i => b (1 + i)) T) ++ (x0W β b (x_kp S) ++ (hW β (fun i => b (8 + i)) (x_kept S) ++ (hW β (fun i => b (15 + i)) (x_ahead S) ++ (hW β (fun i => b (22 + i)) (x_aside S) ++ (tW β (fun i => b (29 + i)) (x_tape S) ++ (xsW β b ++ (shW β b S 0 ++ (shW β b S 1 ++ (shW β b S 2 ++ (shW β b S 3 ++ (xfW β b (x_found S))))))))))))).Perm (xW β b (x_live_s S T)) := (pmX_live β b (x_live_s S T)).symm
theorem pbX_kept (β : zz_B) (b : Nat → Nat) (S : XSt) (T : HSt) : ((hW β (fun i => b (8 + i)) T) ++ (x0W β b (x_kp S) ++ (hW β (fun i => b (1 + i)) (x_live S) ++ (hW β (fun i => b (15 + i)) (x_ahead S) ++ (hW β (fun i => b (22 + i)) (x_aside S) ++ (tW β (fun i => b (29 + i)) (x_tape S) ++ (xsW β b ++ (shW β b S 0 ++ (shW β b S 1 ++ (shW β b S 2 ++ (shW β b S 3 ++ (xfW β b (x_found S))))))))))))).Perm (xW β b (x_kept_s S T)) := (pmX_kept β b (x_kept_s S T)).symm
theorem pbX_ahead (β : zz_B) (b : Nat → Nat) (S : XSt) (T : HSt) : ((hW β (fun i => b (15 + i)) T) ++ (x0W β b (x_kp S) ++ (hW β (fun i => b (1 + i)) (x_live S) ++ (hW β (fun i => b (8 + i)) (x_kept S) ++ (hW β (fun i => b (22 + i)) (x_aside S) ++ (tW β (fun i => b (29 + i)) (x_tape S) ++ (xsW β b ++ (shW β b S 0 ++ (shW β b S 1 ++ (shW β b S 2 ++ (shW β b S 3 ++ (xfW β b (x_found S))))))))))))).Perm (xW β b (x_ahead_s S T)) := (pmX_ahead β b (x_ahead_s S T)).symm
theorem pbX_aside (β : zz_B) (b : Nat → Nat) (S : XSt) (T : HSt) : ((hW β (fun i => b (22 + i)) T) ++ (x0W β b (x_kp S) ++ (hW β (fun i => b (1 + i)) (x_live S) ++ (hW β (fun i => b (8 + i)) (x_kept S) ++ (hW β (fun i => b (15 + i)) (x_ahead S) ++ (tW β (fun i => b (29 + i)) (x_tape S) ++ (xsW β b ++ (shW β b S 0 ++ (shW β b S 1 ++ (shW β b S 2 ++ (shW β b S 3 ++ (xfW β b (x_found S))))))))))))).Perm (xW β b (x_aside_s S T)) := (pmX_aside β b (x_aside_s S T)).symm
theorem pbX_tape (β : zz_B) (b : Nat → Nat) (S : XSt) (T : TSt) : ((tW β (fun i => b (29 + i)) T) ++ (x0W β b (x_kp S) ++ (hW β (fun i => b (1 + i)) (x_live S) ++ (hW β (fun i => b (8 + i)) (x_kept S) ++ (hW β (fun i => b (15 + i)) (x_ahead S) ++ (hW β (fun i => b (22 + i)) (x_aside S) ++ (xsW β b ++ (shW β b S 0 ++ (shW β b S 1 ++ (shW β b S 2 ++ (shW β b S 3 ++ (xfW β b (x_found S))))))))))))).Perm (xW β b (x_tape_s S T)) := (pmX_tape β b (x_tape_s S T)).symm
def shR (β : zz_B) (b : Nat → Nat) (S : XSt) (k : Nat) : va_W := match k with
  | 0 => x0W β b (x_kp S) ++ (hW β (fun i => b (1 + i)) (x_live S) ++ (hW β (fun i => b (8 + i)) (x_kept S) ++ (hW β (fun i => b (15 + i)) (x_ahead S) ++ (hW β (fun i => b (22 + i)) (x_aside S) ++ (tW β (fun i => b (29 + i)) (x_tape S) ++ (xsW β b ++ (shW β b S 1 ++ (shW β b S 2 ++ (shW β b S 3 ++ (xfW β b (x_found S)))))))))))
  | 1 => x0W β b (x_kp S) ++ (hW β (fun i => b (1 + i)) (x_live S) ++ (hW β (fun i => b (8 + i)) (x_kept S) ++ (hW β (fun i => b (15 + i)) (x_ahead S) ++ (hW β (fun i => b (22 + i)) (x_aside S) ++ (tW β (fun i => b (29 + i)) (x_tape S) ++ (xsW β b ++ (shW β b S 0 ++ (shW β b S 2 ++ (shW β b S 3 ++ (xfW β b (x_found S)))))))))))
  | 2 => x0W β b (x_kp S) ++ (hW β (fun i => b (1 + i)) (x_live S) ++ (hW β (fun i => b (8 + i)) (x_kept S) ++ (hW β (fun i => b (15 + i)) (x_ahead S) ++ (hW β (fun i => b (22 + i)) (x_aside S) ++ (tW β (fun i => b (29 + i)) (x_tape S) ++ (xsW β b ++ (shW β b S 0 ++ (shW β b S 1 ++ (shW β b S 3 ++ (xfW β b (x_found S)))))))))))
  | _ => x0W β b (x_kp S) ++ (hW β (fun i => b (1 + i)) (x_live S) ++ (hW β (fun i => b (8 + i)) (x_kept S) ++ (hW β (fun i => b (15 + i)) (x_ahead S) ++ (hW β (fun i => b (22 + i)) (x_aside S) ++ (tW β (fun i => b (29 + i)) (x_tape S) ++ (xsW β b ++ (shW β b S 0 ++ (shW β b S 1 ++ (shW β b S 2 ++ (xfW β b (x_found S)))))))))))
theorem pmX_sh (β : zz_B) (b : Nat → Nat) (S : XSt) {k : Nat} (hk : k < 4) : (xW β b S).Perm (sW β (fun i => b (32 + 2 * k + i)) (x_sh S k) ++ shR β b S k) := by
  match k, hk with
  | 0, _ => exact pmX_sh0 β b S
  | 1, _ => exact pmX_sh1 β b S
  | 2, _ => exact pmX_sh2 β b S
  | 3, _ => exact pmX_sh3 β b S
theorem pbX_sh (β : zz_B) (b : Nat → Nat) (S : XSt) {k : Nat} (hk : k < 4) (T : SSt) : (sW β (fun i => b (32 + 2 * k + i)) T ++ shR β b S k).Perm (xW β b (x_sh_s S (zupd (x_sh S) k T))) := by
  match k, hk with
  | 0, _ => exact (pmX_sh0 β b (x_sh_s S (zupd (x_sh S) 0 T))).symm
  | 1, _ => exact (pmX_sh1 β b (x_sh_s S (zupd (x_sh S) 1 T))).symm
  | 2, _ => exact (pmX_sh2 β b (x_sh_s S (zupd (x_sh S) 2 T))).symm
  | 3, _ => exact (pmX_sh3 β b (x_sh_s S (zupd (x_sh S) 3 T))).symm
theorem xsh_o (β : zz_B) (b : Nat → Nat) (S : XSt) {k : Nat} (hk : k < 4) : (xW β b S)[32 + 2 * k]? = some (b (32 + 2 * k), .inr (1, [.ref (b (32 + 2 * k + 1)), .int (s_bits (x_sh S k)), .int (s_size (x_sh S k))])) := by
  match k, hk with
  | 0, _ => rfl
  | 1, _ => rfl
  | 2, _ => rfl
  | 3, _ => rfl
theorem xsh_a (β : zz_B) (b : Nat → Nat) (S : XSt) {k : Nat} (hk : k < 4) : (xW β b S)[32 + 2 * k + 1]? = some (b (32 + 2 * k + 1), .inl (β.2.2.1.2.1, 40, .inr (.inl (s_numbers (x_sh S k))))) := by
  match k, hk with
  | 0, _ => rfl
  | 1, _ => rfl
  | 2, _ => rfl
  | 3, _ => rfl
theorem xsh_w (β : zz_B) (b : Nat → Nat) (S : XSt) {k : Nat} (hk : k < 4) (v : Nat → Int64) : (xW β b S).set (32 + 2 * k + 1) (b (32 + 2 * k + 1), .inl (β.2.2.1.2.1, 40, .inr (.inl v))) = xW β b (x_sh_s S (zupd (x_sh S) k (s_numbers_s (x_sh S k) v))) := by
  match k, hk with
  | 0, _ => rfl
  | 1, _ => rfl
  | 2, _ => rfl
  | 3, _ => rfl
theorem pbX_kept_live (β : zz_B) (b : Nat → Nat) (S : XSt) (T : HSt × HSt) : ((hhW β (fun i => b (8 + i)) (fun i => b (1 + i)) T) ++ (x0W β b (x_kp S) ++ (hW β (fun i => b (15 + i)) (x_ahead S) ++ (hW β (fun i => b (22 + i)) (x_aside S) ++ (tW β (fun i => b (29 + i)) (x_tape S) ++ (xsW β b ++ (shW β b S 0 ++ (shW β b S 1 ++ (shW β b S 2 ++ (shW β b S 3 ++ (xfW β b (x_found S)))))))))))).Perm (xW β b (x_live_s (x_kept_s S T.1) T.2)) := (pmX_kept_live β b (x_live_s (x_kept_s S T.1) T.2)).symm
theorem pbX_ahead_live (β : zz_B) (b : Nat → Nat) (S : XSt) (T : HSt × HSt) : ((hhW β (fun i => b (15 + i)) (fun i => b (1 + i)) T) ++ (x0W β b (x_kp S) ++ (hW β (fun i => b (8 + i)) (x_kept S) ++ (hW β (fun i => b (22 + i)) (x_aside S) ++ (tW β (fun i => b (29 + i)) (x_tape S) ++ (xsW β b ++ (shW β b S 0 ++ (shW β b S 1 ++ (shW β b S 2 ++ (shW β b S 3 ++ (xfW β b (x_found S)))))))))))).Perm (xW β b (x_live_s (x_ahead_s S T.1) T.2)) := (pmX_ahead_live β b (x_live_s (x_ahead_s S T.1) T.2)).symm
theorem pbX_live_ahead (β : zz_B) (b : Nat → Nat) (S : XSt) (T : HSt × HSt) : ((hhW β (fun i => b (1 + i)) (fun i => b (15 + i)) T) ++ (x0W β b (x_kp S) ++ (hW β (fun i => b (8 + i)) (x_kept S) ++ (hW β (fun i => b (22 + i)) (x_aside S) ++ (tW β (fun i => b (29 + i)) (x_tape S) ++ (xsW β b ++ (shW β b S 0 ++ (shW β b S 1 ++ (shW β b S 2 ++ (shW β b S 3 ++ (xfW β b (x_found S)))))))))))).Perm (xW β b (x_ahead_s (x_live_s S T.1) T.2)) := (pmX_live_ahead β b (x_ahead_s (x_live_s S T.1) T.2)).symm
theorem pbX_live_kept (β : zz_B) (b : Nat → Nat) (S : XSt) (T : HSt × HSt) : ((hhW β (fun i => b (1 + i)) (fun i => b (8 + i)) T) ++ (x0W β b (x_kp S) ++ (hW β (fun i => b (15 + i)) (x_ahead S) ++ (hW β (fun i => b (22 + i)) (x_aside S) ++ (tW β (fun i => b (29 + i)) (x_tape S) ++ (xsW β b ++ (shW β b S 0 ++ (shW β b S 1 ++ (shW β b S 2 ++ (shW β b S 3 ++ (xfW β b (x_found S)))))))))))).Perm (xW β b (x_kept_s (x_live_s S T.1) T.2)) := (pmX_live_kept β b (x_kept_s (x_live_s S T.1) T.2)).symm
theorem pbX_aside_ahead (β : zz_B) (b : Nat → Nat) (S : XSt) (T : HSt × HSt) : ((hhW β (fun i => b (22 + i)) (fun i => b (15 + i)) T) ++ (x0W β b (x_kp S) ++ (hW β (fun i => b (1 + i)) (x_live S) ++ (hW β (fun i => b (8 + i)) (x_kept S) ++ (tW β (fun i => b (29 + i)) (x_tape S) ++ (xsW β b ++ (shW β b S 0 ++ (shW β b S 1 ++ (shW β b S 2 ++ (shW β b S 3 ++ (xfW β b (x_found S)))))))))))).Perm (xW β b (x_ahead_s (x_aside_s S T.1) T.2)) := (pmX_aside_ahead β b (x_ahead_s (x_aside_s S T.1) T.2)).symm
theorem pbX_tape_ahead (β : zz_B) (b : Nat → Nat) (S : XSt) (T : TSt × HSt) : ((thW β (fun i => b (29 + i)) (fun i => b (15 + i)) T) ++ (x0W β b (x_kp S) ++ (hW β (fun i => b (1 + i)) (x_live S) ++ (hW β (fun i => b (8 + i)) (x_kept S) ++ (hW β (fun i => b (22 + i)) (x_aside S) ++ (xsW β b ++ (shW β b S 0 ++ (shW β b S 1 ++ (shW β b S 2 ++ (shW β b S 3 ++ (xfW β b (x_found S)))))))))))).Perm (xW β b (x_ahead_s (x_tape_s S T.1) T.2)) := (pmX_tape_ahead β b (x_ahead_s (x_tape_s S T.1) T.2)).symm
theorem zinX0 : ∀ w ∈ u_ws RX0 TX0 9, w ∈ zT := by
  have h : ∀ k, k < 9 → u_lay RX0 TX0 k ∈ zT := by
    intro k hk
    match k, hk with
    | 0, _ => exact wd_115
    | 1, _ => exact wd_117
    | 2, _ => exact wd_119
    | 3, _ => exact wd_121
    | 4, _ => exact wd_123
    | 5, _ => exact wd_125
    | 6, _ => exact wd_127
    | 7, _ => exact wd_129
    | 8, _ => exact wd_131
    | k + 9, hk => exact absurd hk (by omega)
  intro w hw
  obtain ⟨k, hk, rfl⟩ := List.mem_map.mp hw
  exact h k (List.mem_range.mp hk)
theorem zinX2 : ∀ w ∈ u_ws RX2 TX2 3, w ∈ zT := by
  have h : ∀ k, k < 3 → u_lay RX2 TX2 k ∈ zT := by
    intro k hk
    match k, hk with
    | 0, _ => exact wd_177
    | 1, _ => exact wd_179
    | 2, _ => exact wd_181
    | k + 3, hk => exact absurd hk (by omega)
  intro w hw
  obtain ⟨k, hk, rfl⟩ := List.mem_map.mp hw
  exact h k (List.mem_range.mp hk)
theorem zinX3 : ∀ w ∈ u_ws RX3 TX3 7, w ∈ zT := by
  have h : ∀ k, k < 7 → u_lay RX3 TX3 k ∈ zT := by
    intro k hk
    match k, hk with
    | 0, _ => exact wd_149
    | 1, _ => exact wd_151
    | 2, _ => exact wd_153
    | 3, _ => exact wd_155
    | 4, _ => exact wd_157
    | 5, _ => exact wd_159
    | 6, _ => exact wd_161
    | k + 7, hk => exact absurd hk (by omega)
  intro w hw
  obtain ⟨k, hk, rfl⟩ := List.mem_map.mp hw
  exact h k (List.mem_range.mp hk)
theorem zinX4 : ∀ w ∈ u_ws RX4 TX4 8, w ∈ zT := by
  have h : ∀ k, k < 8 → u_lay RX4 TX4 k ∈ zT := by
    intro k hk
    match k, hk with
    | 0, _ => exact wd_193
    | 1, _ => exact wd_195
    | 2, _ => exact wd_197
    | 3, _ => exact wd_199
    | 4, _ => exact wd_201
    | 5, _ => exact wd_203
    | 6, _ => exact wd_205
    | 7, _ => exact wd_207
    | k + 8, hk => exact absurd hk (by omega)
  intro w hw
  obtain ⟨k, hk, rfl⟩ := List.mem_map.mp hw
  exact h k (List.mem_range.mp hk)
theorem zinX5 : ∀ w ∈ u_ws RX5 TX5 19, w ∈ zT := by
  have h : ∀ k, k < 19 → u_lay RX5 TX5 k ∈ zT := by
    intro k hk
    match k, hk with
    | 0, _ => exact wd_694
    | 1, _ => exact wd_696
    | 2, _ => exact wd_698
    | 3, _ => exact wd_700
    | 4, _ => exact wd_702
    | 5, _ => exact wd_704
    | 6, _ => exact wd_706
    | 7, _ => exact wd_708
    | 8, _ => exact wd_710
    | 9, _ => exact wd_712
    | 10, _ => exact wd_714
    | 11, _ => exact wd_716
    | 12, _ => exact wd_718
    | 13, _ => exact wd_720
    | 14, _ => exact wd_722
    | 15, _ => exact wd_724
    | 16, _ => exact wd_726
    | 17, _ => exact wd_728
    | 18, _ => exact wd_730
    | k + 19, hk => exact absurd hk (by omega)
  intro w hw
  obtain ⟨k, hk, rfl⟩ := List.mem_map.mp hw
  exact h k (List.mem_range.mp hk)
theorem fl_X0_9 : zz_FL RX0 9 0 0 RX0 TX0 9 := ⟨zinX0, rfl, by decide, wd_91⟩
theorem fl_X4_64 : zz_FL RX4 64 0 0 RX0 TX0 9 := ⟨zinX0, rfl, by decide, wd_92⟩
theorem fl_X3_78 : zz_FL RX3 78 0 0 RX0 TX0 9 := ⟨zinX0, rfl, by decide, wd_93⟩
theorem fl_X0_15 : zz_FL RX0 15 0 1 RX0 TX0 9 := ⟨zinX0, rfl, by decide, wd_94⟩
theorem fl_X4_67 : zz_FL RX4 67 0 1 RX0 TX0 9 := ⟨zinX0, rfl, by decide, wd_95⟩
theorem fl_X3_81 : zz_FL RX3 81 0 1 RX0 TX0 9 := ⟨zinX0, rfl, by decide, wd_96⟩
theorem fl_X0_18 : zz_FL RX0 18 0 2 RX0 TX0 9 := ⟨zinX0, rfl, by decide, wd_97⟩
theorem fl_X4_102 : zz_FL RX4 102 0 2 RX0 TX0 9 := ⟨zinX0, rfl, by decide, wd_98⟩
theorem fl_X0_21 : zz_FL RX0 21 0 3 RX0 TX0 9 := ⟨zinX0, rfl, by decide, wd_99⟩
theorem fl_X3_69 : zz_FL RX3 69 0 3 RX0 TX0 9 := ⟨zinX0, rfl, by decide, wd_100⟩
theorem fl_X4_108 : zz_FL RX4 108 0 3 RX0 TX0 9 := ⟨zinX0, rfl, by decide, wd_101⟩
theorem fl_X0_24 : zz_FL RX0 24 0 4 RX0 TX0 9 := ⟨zinX0, rfl, by decide, wd_102⟩
theorem fl_X3_75 : zz_FL RX3 75 0 4 RX0 TX0 9 := ⟨zinX0, rfl, by decide, wd_103⟩
theorem fl_X4_105 : zz_FL RX4 105 0 4 RX0 TX0 9 := ⟨zinX0, rfl, by decide, wd_104⟩
theorem fl_X0_27 : zz_FL RX0 27 0 5 RX0 TX0 9 := ⟨zinX0, rfl, by decide, wd_105⟩
theorem fl_X4_111 : zz_FL RX4 111 0 5 RX0 TX0 9 := ⟨zinX0, rfl, by decide, wd_106⟩
theorem fl_X0_30 : zz_FL RX0 30 0 6 RX0 TX0 9 := ⟨zinX0, rfl, by decide, wd_107⟩
theorem fp_X0_30 : zz_FP RX0 30 0 6 RX0 TX0 9 tyX0 := ⟨fl_X0_30, tyX0_ok, nmX0, rfl⟩
theorem fl_X4_73 : zz_FL RX4 73 0 6 RX0 TX0 9 := ⟨zinX0, rfl, by decide, wd_108⟩
theorem fp_X4_73 : zz_FP RX4 73 0 6 RX0 TX0 9 tyX0 := ⟨fl_X4_73, tyX0_ok, nmX0, rfl⟩
theorem fl_X0_34 : zz_FL RX0 34 0 7 RX0 TX0 9 := ⟨zinX0, rfl, by decide, wd_109⟩
theorem fp_X0_34 : zz_FP RX0 34 0 7 RX0 TX0 9 tyX0 := ⟨fl_X0_34, tyX0_ok, nmX0, rfl⟩
theorem fl_X4_56 : zz_FL RX4 56 0 7 RX0 TX0 9 := ⟨zinX0, rfl, by decide, wd_110⟩
theorem fp_X4_56 : zz_FP RX4 56 0 7 RX0 TX0 9 tyX0 := ⟨fl_X4_56, tyX0_ok, nmX0, rfl⟩
theorem fl_X3_83 : zz_FL RX3 83 0 7 RX0 TX0 9 := ⟨zinX0, rfl, by decide, wd_111⟩
theorem fp_X3_83 : zz_FP RX3 83 0 7 RX0 TX0 9 tyX0 := ⟨fl_X3_83, tyX0_ok, nmX0, rfl⟩
theorem fl_X0_37 : zz_FL RX0 37 0 8 RX0 TX0 9 := ⟨zinX0, rfl, by decide, wd_112⟩
theorem fp_X0_37 : zz_FP RX0 37 0 8 RX0 TX0 9 tyX0 := ⟨fl_X0_37, tyX0_ok, nmX0, rfl⟩
theorem fl_X4_92 : zz_FL RX4 92 0 8 RX0 TX0 9 := ⟨zinX0, rfl, by decide, wd_113⟩
theorem fp_X4_92 : zz_FP RX4 92 0 8 RX0 TX0 9 tyX0 := ⟨fl_X4_92, tyX0_ok, nmX0, rfl⟩
theorem fl_X3_86 : zz_FL RX3 86 0 8 RX0 TX0 9 := ⟨zinX0, rfl, by decide, wd_114⟩
theorem fp_X3_86 : zz_FP RX3 86 0 8 RX0 TX0 9 tyX0 := ⟨fl_X3_86, tyX0_ok, nmX0, rfl⟩
theorem fl_X3_9 : zz_FL RX3 9 2 0 RX3 TX3 7 := ⟨zinX3, rfl, by decide, wd_141⟩
theorem fl_X3_15 : zz_FL RX3 15 2 1 RX3 TX3 7 := ⟨zinX3, rfl, by decide, wd_142⟩
theorem fp_X3_15 : zz_FP RX3 15 2 1 RX3 TX3 7 tyX3 := ⟨fl_X3_15, tyX3_ok, nmX3, rfl⟩
theorem fl_X4_182 : zz_FL RX4 182 2 1 RX3 TX3 7 := ⟨zinX3, rfl, by decide, wd_143⟩
theorem fp_X4_182 : zz_FP RX4 182 2 1 RX3 TX3 7 tyX3 := ⟨fl_X4_182, tyX3_ok, nmX3, rfl⟩
theorem fl_X3_19 : zz_FL RX3 19 2 2 RX3 TX3 7 := ⟨zinX3, rfl, by decide, wd_144⟩
theorem fp_X3_19 : zz_FP RX3 19 2 2 RX3 TX3 7 tyX3 := ⟨fl_X3_19, tyX3_ok, nmX3, rfl⟩
theorem fl_X3_22 : zz_FL RX3 22 2 3 RX3 TX3 7 := ⟨zinX3, rfl, by decide, wd_145⟩
theorem fp_X3_22 : zz_FP RX3 22 2 3 RX3 TX3 7 tyX3 := ⟨fl_X3_22, tyX3_ok, nmX3, rfl⟩
theorem fl_X3_25 : zz_FL RX3 25 2 4 RX3 TX3 7 := ⟨zinX3, rfl, by decide, wd_146⟩
theorem fp_X3_25 : zz_FP RX3 25 2 4 RX3 TX3 7 tyX3 := ⟨fl_X3_25, tyX3_ok, nmX3, rfl⟩
theorem fl_X3_28 : zz_FL RX3 28 2 5 RX3 TX3 7 := ⟨zinX3, rfl, by decide, wd_147⟩
theorem fp_X3_28 : zz_FP RX3 28 2 5 RX3 TX3 7 tyX3 := ⟨fl_X3_28, tyX3_ok, nmX3, rfl⟩
theorem fl_X3_31 : zz_FL RX3 31 2 6 RX3 TX3 7 := ⟨zinX3, rfl, by decide, wd_148⟩
theorem fp_X3_31 : zz_FP RX3 31 2 6 RX3 TX3 7 tyX3 := ⟨fl_X3_31, tyX3_ok, nmX3, rfl⟩
theorem fl_X2_9 : zz_FL RX2 9 1 0 RX2 TX2 3 := ⟨zinX2, rfl, by decide, wd_171⟩
theorem fl_X4_208 : zz_FL RX4 208 1 0 RX2 TX2 3 := ⟨zinX2, rfl, by decide, wd_172⟩
theorem fl_X2_15 : zz_FL RX2 15 1 1 RX2 TX2 3 := ⟨zinX2, rfl, by decide, wd_173⟩
theorem fp_X2_15 : zz_FP RX2 15 1 1 RX2 TX2 3 tyX2 := ⟨fl_X2_15, tyX2_ok, nmX2, rfl⟩
theorem fl_X4_215 : zz_FL RX4 215 1 1 RX2 TX2 3 := ⟨zinX2, rfl, by decide, wd_174⟩
theorem fp_X4_215 : zz_FP RX4 215 1 1 RX2 TX2 3 tyX2 := ⟨fl_X4_215, tyX2_ok, nmX2, rfl⟩
theorem fl_X2_19 : zz_FL RX2 19 1 2 RX2 TX2 3 := ⟨zinX2, rfl, by decide, wd_175⟩
theorem fp_X2_19 : zz_FP RX2 19 1 2 RX2 TX2 3 tyX2 := ⟨fl_X2_19, tyX2_ok, nmX2, rfl⟩
theorem fl_X4_205 : zz_FL RX4 205 1 2 RX2 TX2 3 := ⟨zinX2, rfl, by decide, wd_176⟩
theorem fp_X4_205 : zz_FP RX4 205 1 2 RX2 TX2 3 tyX2 := ⟨fl_X4_205, tyX2_ok, nmX2, rfl⟩
theorem fl_X4_12 : zz_FL RX4 12 3 0 RX4 TX4 8 := ⟨zinX4, rfl, by decide, wd_185⟩
theorem fl_X4_16 : zz_FL RX4 16 3 1 RX4 TX4 8 := ⟨zinX4, rfl, by decide, wd_186⟩
theorem fl_X4_19 : zz_FL RX4 19 3 2 RX4 TX4 8 := ⟨zinX4, rfl, by decide, wd_187⟩
theorem fl_X4_22 : zz_FL RX4 22 3 3 RX4 TX4 8 := ⟨zinX4, rfl, by decide, wd_188⟩
theorem fl_X4_28 : zz_FL RX4 28 3 4 RX4 TX4 8 := ⟨zinX4, rfl, by decide, wd_189⟩
theorem fl_X4_34 : zz_FL RX4 34 3 5 RX4 TX4 8 := ⟨zinX4, rfl, by decide, wd_190⟩
theorem fl_X4_38 : zz_FL RX4 38 3 6 RX4 TX4 8 := ⟨zinX4, rfl, by decide, wd_191⟩
theorem fl_X4_42 : zz_FL RX4 42 3 7 RX4 TX4 8 := ⟨zinX4, rfl, by decide, wd_192⟩
theorem fp_X4_42 : zz_FP RX4 42 3 7 RX4 TX4 8 tyX4 := ⟨fl_X4_42, tyX4_ok, nmX4, rfl⟩
theorem fl_X5_7 : zz_FL RX5 7 4 0 RX5 TX5 19 := ⟨zinX5, rfl, by decide, wd_675⟩
theorem fl_X5_13 : zz_FL RX5 13 4 1 RX5 TX5 19 := ⟨zinX5, rfl, by decide, wd_676⟩
theorem fl_X5_16 : zz_FL RX5 16 4 2 RX5 TX5 19 := ⟨zinX5, rfl, by decide, wd_677⟩
theorem fl_X5_19 : zz_FL RX5 19 4 3 RX5 TX5 19 := ⟨zinX5, rfl, by decide, wd_678⟩
theorem fl_X5_22 : zz_FL RX5 22 4 4 RX5 TX5 19 := ⟨zinX5, rfl, by decide, wd_679⟩
theorem fl_X5_174 : zz_FL RX5 174 4 5 RX5 TX5 19 := ⟨zinX5, rfl, by decide, wd_680⟩
theorem fp_X5_174 : zz_FP RX5 174 4 5 RX5 TX5 19 tyX5 := ⟨fl_X5_174, tyX5_ok, nmX5, rfl⟩
theorem fl_X5_193 : zz_FL RX5 193 4 6 RX5 TX5 19 := ⟨zinX5, rfl, by decide, wd_681⟩
theorem fp_X5_193 : zz_FP RX5 193 4 6 RX5 TX5 19 tyX5 := ⟨fl_X5_193, tyX5_ok, nmX5, rfl⟩
theorem fl_X5_181 : zz_FL RX5 181 4 7 RX5 TX5 19 := ⟨zinX5, rfl, by decide, wd_682⟩
theorem fp_X5_181 : zz_FP RX5 181 4 7 RX5 TX5 19 tyX5 := ⟨fl_X5_181, tyX5_ok, nmX5, rfl⟩
theorem fl_X5_178 : zz_FL RX5 178 4 8 RX5 TX5 19 := ⟨zinX5, rfl, by decide, wd_683⟩
theorem fp_X5_178 : zz_FP RX5 178 4 8 RX5 TX5 19 tyX5 := ⟨fl_X5_178, tyX5_ok, nmX5, rfl⟩
theorem fl_X5_196 : zz_FL RX5 196 4 9 RX5 TX5 19 := ⟨zinX5, rfl, by decide, wd_684⟩
theorem fp_X5_196 : zz_FP RX5 196 4 9 RX5 TX5 19 tyX5 := ⟨fl_X5_196, tyX5_ok, nmX5, rfl⟩
theorem fl_X5_200 : zz_FL RX5 200 4 10 RX5 TX5 19 := ⟨zinX5, rfl, by decide, wd_685⟩
theorem fp_X5_200 : zz_FP RX5 200 4 10 RX5 TX5 19 tyX5 := ⟨fl_X5_200, tyX5_ok, nmX5, rfl⟩
theorem fl_X5_225 : zz_FL RX5 225 4 11 RX5 TX5 19 := ⟨zinX5, rfl, by decide, wd_686⟩
theorem fp_X5_225 : zz_FP RX5 225 4 11 RX5 TX5 19 tyX5 := ⟨fl_X5_225, tyX5_ok, nmX5, rfl⟩
theorem fl_X5_25 : zz_FL RX5 25 4 12 RX5 TX5 19 := ⟨zinX5, rfl, by decide, wd_687⟩
theorem fl_X5_28 : zz_FL RX5 28 4 13 RX5 TX5 19 := ⟨zinX5, rfl, by decide, wd_688⟩
theorem fl_X5_31 : zz_FL RX5 31 4 14 RX5 TX5 19 := ⟨zinX5, rfl, by decide, wd_689⟩
theorem fl_X5_35 : zz_FL RX5 35 4 15 RX5 TX5 19 := ⟨zinX5, rfl, by decide, wd_690⟩
theorem fl_X5_38 : zz_FL RX5 38 4 16 RX5 TX5 19 := ⟨zinX5, rfl, by decide, wd_691⟩
theorem fl_X5_41 : zz_FL RX5 41 4 17 RX5 TX5 19 := ⟨zinX5, rfl, by decide, wd_692⟩
theorem fl_X5_288 : zz_FL RX5 288 4 18 RX5 TX5 19 := ⟨zinX5, rfl, by decide, wd_693⟩
theorem fp_X5_288 : zz_FP RX5 288 4 18 RX5 TX5 19 tyX5 := ⟨fl_X5_288, tyX5_ok, nmX5, rfl⟩
theorem cw_L_13 : zz_CV RL 13 yX4_falls cX4_falls 3 (some .int) 1 := ⟨⟨wd_210, wd_64, wd_213, by decide +kernel⟩, wd_211, wd_212⟩
theorem cw_X4_47 : zz_CS RX4 47 yX4_within cX4_within 3 (some .boolean) 3 := ⟨⟨wd_214, wd_64, wd_216, by decide +kernel⟩, wd_215⟩
theorem cw_X4_52 : zz_CV RX4 52 yX4_finding cX4_finding 3 (some .int) 1 := ⟨⟨wd_218, wd_64, wd_221, by decide +kernel⟩, wd_220, wd_0⟩
theorem cw_L_18 : zz_CV RL 18 yX4_room cX4_room 6 (some .int) 3 := ⟨⟨wd_222, wd_64, wd_225, by decide +kernel⟩, wd_223, wd_224⟩
theorem cw_X4_60 : zz_CS RX4 60 yX4_isRoom cX4_isRoom 1 (some .boolean) 1 := ⟨⟨wd_226, wd_64, wd_228, by decide +kernel⟩, wd_227⟩
theorem cw_L_23 : zz_CV RL 23 yX4_roomOf cX4_roomOf 3 (some .int) 2 := ⟨⟨wd_229, wd_64, wd_232, by decide +kernel⟩, wd_230, wd_231⟩
theorem cw_X4_70 : zz_CV RX4 70 yX0_whoIsIn cX0_whoIsIn 4 (some .int) 1 := ⟨⟨wd_233, wd_65, wd_236, by decide +kernel⟩, wd_234, wd_235⟩
theorem cw_X0_46 : zz_CV RX0 46 yX0_whereIs cX0_whereIs 2 (some .int) 1 := ⟨⟨wd_237, wd_65, wd_240, by decide +kernel⟩, wd_238, wd_239⟩
theorem cw_L_28 : zz_CV RL 28 yX4_now cX4_now 2 (some .int) 1 := ⟨⟨wd_241, wd_64, wd_244, by decide +kernel⟩, wd_242, wd_243⟩
theorem cw_X4_76 : zz_CV RX4 76 yX0_dustOfAll cX0_dustOfAll 3 (some .int) 0 := ⟨⟨wd_245, wd_65, wd_248, by decide +kernel⟩, wd_246, wd_247⟩
theorem cw_X4_80 : zz_CV RX4 80 yX0_memoriesEverywhere cX0_memoriesEverywhere 3 (some .int) 0 := ⟨⟨wd_249, wd_65, wd_252, by decide +kernel⟩, wd_250, wd_251⟩
theorem cw_X4_83 : zz_CV RX4 83 yX0_memoriesAnywhere cX0_memoriesAnywhere 3 (some .int) 0 := ⟨⟨wd_253, wd_65, wd_256, by decide +kernel⟩, wd_254, wd_255⟩
theorem cw_X4_86 : zz_CV RX4 86 yX0_memoriesHeld cX0_memoriesHeld 3 (some .int) 0 := ⟨⟨wd_257, wd_65, wd_260, by decide +kernel⟩, wd_258, wd_259⟩
theorem cw_L_32 : zz_CV RL 32 yX4_duster cX4_duster 2 (some .int) 1 := ⟨⟨wd_261, wd_64, wd_264, by decide +kernel⟩, wd_262, wd_263⟩
theorem cw_X4_89 : zz_CS RX4 89 yX4_isKind cX4_isKind 1 (some .boolean) 1 := ⟨⟨wd_265, wd_64, wd_267, by decide +kernel⟩, wd_266⟩
theorem cw_X4_96 : zz_CV RX4 96 yX0_addDuster cX0_addDuster 3 (some .int) 1 := ⟨⟨wd_269, wd_65, wd_272, by decide +kernel⟩, wd_270, wd_271⟩
theorem cw_L_36 : zz_CV RL 36 yX4_of cX4_of 5 (some .int) 2 := ⟨⟨wd_273, wd_64, wd_276, by decide +kernel⟩, wd_274, wd_275⟩
theorem cw_X4_99 : zz_CV RX4 99 yX4_isDuster cX4_isDuster 2 (some .boolean) 1 := ⟨⟨wd_277, wd_64, wd_280, by decide +kernel⟩, wd_279, wd_1⟩
theorem cw_X4_114 : zz_CV RX4 114 yX0_whereIs cX0_whereIs 2 (some .int) 1 := ⟨⟨wd_281, wd_65, wd_240, by decide +kernel⟩, wd_238, wd_239⟩
theorem cw_X4_117 : zz_CS RX4 117 yX1_wipes cX1_wipes 5 (some .int) 2 := ⟨⟨wd_282, wd_69, wd_284, by decide +kernel⟩, wd_283⟩
theorem cw_X4_123 : zz_CS RX4 123 yX1_takesUp cX1_takesUp 2 (some .int) 2 := ⟨⟨wd_285, wd_69, wd_287, by decide +kernel⟩, wd_286⟩
theorem cw_X4_126 : zz_CS RX4 126 yX1_leaves cX1_leaves 3 (some .int) 2 := ⟨⟨wd_288, wd_69, wd_290, by decide +kernel⟩, wd_289⟩
theorem cw_X1_9 : zz_CS RX1 9 yJ9_max_7cf53 cJ9_max_7cf53 2 (some .int) 2 := ⟨⟨wd_291, wd_70, wd_293, by decide +kernel⟩, wd_292⟩
theorem cw_X4_129 : zz_CS RX4 129 yX1_keeps cX1_keeps 2 (some .boolean) 2 := ⟨⟨wd_294, wd_69, wd_296, by decide +kernel⟩, wd_295⟩
theorem cw_X1_15 : zz_CS RX1 15 yJ6_bitCount_0f7a4 cJ6_bitCount_0f7a4 1 (some .int) 1 := ⟨⟨wd_297, wd_71, wd_299, by decide +kernel⟩, wd_298⟩
theorem cw_L_40 : zz_CV RL 40 yX4_set cX4_set 7 (some .int) 3 := ⟨⟨wd_303, wd_64, wd_306, by decide +kernel⟩, wd_304, wd_305⟩
theorem cw_L_44 : zz_CV RL 44 yX4_turn cX4_turn 4 (some .int) 2 := ⟨⟨wd_307, wd_64, wd_310, by decide +kernel⟩, wd_308, wd_309⟩
theorem cw_L_48 : zz_CV RL 48 yX4_as cX4_as 3 (some .int) 2 := ⟨⟨wd_311, wd_64, wd_314, by decide +kernel⟩, wd_312, wd_313⟩
theorem cw_X4_133 : zz_CS RX4 133 yX1_isUnder cX1_isUnder 2 (some .boolean) 2 := ⟨⟨wd_315, wd_69, wd_317, by decide +kernel⟩, wd_316⟩
theorem cw_L_52 : zz_CV RL 52 yX4_through cX4_through 3 (some .int) 2 := ⟨⟨wd_319, wd_64, wd_322, by decide +kernel⟩, wd_320, wd_321⟩
theorem cw_X4_137 : zz_CV RX4 137 yX0_goThrough cX0_goThrough 11 (some .int) 2 := ⟨⟨wd_323, wd_65, wd_326, by decide +kernel⟩, wd_324, wd_325⟩
theorem cw_X0_62 : zz_CS RX0 62 yX1_takesUp cX1_takesUp 2 (some .int) 2 := ⟨⟨wd_327, wd_69, wd_287, by decide +kernel⟩, wd_286⟩
theorem cw_X0_67 : zz_CS RX0 67 yX0_leastOf cX0_leastOf 4 (some .int) 2 := ⟨⟨wd_328, wd_65, wd_330, by decide +kernel⟩, wd_329⟩
theorem cw_X0_70 : zz_CS RX0 70 yX1_leaves cX1_leaves 3 (some .int) 2 := ⟨⟨wd_331, wd_69, wd_290, by decide +kernel⟩, wd_289⟩
theorem cw_X0_73 : zz_CS RX0 73 yX1_wipes cX1_wipes 5 (some .int) 2 := ⟨⟨wd_332, wd_69, wd_284, by decide +kernel⟩, wd_283⟩
theorem cw_X0_57 : zz_CS RX0 57 yJ9_min_7cf53 cJ9_min_7cf53 2 (some .int) 2 := ⟨⟨wd_333, wd_70, wd_335, by decide +kernel⟩, wd_334⟩
theorem cw_X0_76 : zz_CS RX0 76 yX1_keeps cX1_keeps 2 (some .boolean) 2 := ⟨⟨wd_336, wd_69, wd_296, by decide +kernel⟩, wd_295⟩
theorem cw_L_56 : zz_CV RL 56 yX4_wash cX4_wash 2 (some .int) 1 := ⟨⟨wd_337, wd_64, wd_340, by decide +kernel⟩, wd_338, wd_339⟩
theorem cw_X4_140 : zz_CV RX4 140 yX0_washOne cX0_washOne 4 (some .int) 1 := ⟨⟨wd_341, wd_65, wd_344, by decide +kernel⟩, wd_342, wd_343⟩
theorem cw_L_60 : zz_CV RL 60 yX4_shake cX4_shake 2 (some .int) 1 := ⟨⟨wd_345, wd_64, wd_348, by decide +kernel⟩, wd_346, wd_347⟩
theorem cw_X4_143 : zz_CV RX4 143 yX0_shakeOne cX0_shakeOne 3 (some .int) 1 := ⟨⟨wd_349, wd_65, wd_352, by decide +kernel⟩, wd_350, wd_351⟩
theorem cw_L_64 : zz_CV RL 64 yX4_days cX4_days 2 (some .int) 1 := ⟨⟨wd_353, wd_64, wd_356, by decide +kernel⟩, wd_354, wd_355⟩
theorem cw_X4_147 : zz_CV RX4 147 yX0_goDays cX0_goDays 3 none 1 := ⟨⟨wd_358, wd_65, wd_361, by decide +kernel⟩, wd_359, wd_360⟩
theorem cw_X0_50 : zz_CV RX0 50 yX0_goDay cX0_goDay 2 none 0 := ⟨⟨wd_362, wd_65, wd_365, by decide +kernel⟩, wd_363, wd_364⟩
theorem cw_X0_53 : zz_CV RX0 53 yX0_goThrough cX0_goThrough 11 (some .int) 2 := ⟨⟨wd_366, wd_65, wd_326, by decide +kernel⟩, wd_324, wd_325⟩
theorem cw_L_68 : zz_CV RL 68 yX4_on cX4_on 4 (some .int) 3 := ⟨⟨wd_367, wd_64, wd_370, by decide +kernel⟩, wd_368, wd_369⟩
theorem cw_X4_151 : zz_CV RX4 151 yX4_lookAhead cX4_lookAhead 2 none 1 := ⟨⟨wd_371, wd_64, wd_374, by decide +kernel⟩, wd_373, wd_2⟩
theorem cw_X4_154 : zz_CV RX4 154 yX0_becomeAs cX0_becomeAs 2 none 1 := ⟨⟨wd_375, wd_65, wd_378, by decide +kernel⟩, wd_376, wd_377⟩
theorem cw_L_72 : zz_CV RL 72 yX4_then cX4_then 4 (some .int) 3 := ⟨⟨wd_382, wd_64, wd_385, by decide +kernel⟩, wd_383, wd_384⟩
theorem cw_L_76 : zz_CV RL 76 yX4_clean cX4_clean 3 (some .int) 1 := ⟨⟨wd_386, wd_64, wd_389, by decide +kernel⟩, wd_387, wd_388⟩
theorem cw_X4_158 : zz_CV RX4 158 yX0_goDay cX0_goDay 2 none 0 := ⟨⟨wd_390, wd_65, wd_365, by decide +kernel⟩, wd_363, wd_364⟩
theorem cw_L_80 : zz_CV RL 80 yX4_comes cX4_comes 3 (some .int) 2 := ⟨⟨wd_392, wd_64, wd_395, by decide +kernel⟩, wd_393, wd_394⟩
theorem cw_X4_162 : zz_CS RX4 162 yX4_isMemory cX4_isMemory 1 (some .boolean) 1 := ⟨⟨wd_396, wd_64, wd_398, by decide +kernel⟩, wd_397⟩
theorem cw_X4_165 : zz_CV RX4 165 yX4_firstWith cX4_firstWith 5 (some .int) 3 := ⟨⟨wd_399, wd_64, wd_402, by decide +kernel⟩, wd_401, wd_3⟩
theorem cw_L_84 : zz_CV RL 84 yX4_holds cX4_holds 3 (some .int) 2 := ⟨⟨wd_403, wd_64, wd_406, by decide +kernel⟩, wd_404, wd_405⟩
theorem cw_L_88 : zz_CV RL 88 yX4_round cX4_round 7 (some .int) 2 := ⟨⟨wd_407, wd_64, wd_410, by decide +kernel⟩, wd_408, wd_409⟩
theorem cw_X4_172 : zz_CV RX4 172 yX4_dustAheadAfter cX4_dustAheadAfter 2 (some .int) 1 := ⟨⟨wd_412, wd_64, wd_415, by decide +kernel⟩, wd_414, wd_4⟩
theorem cw_L_92 : zz_CV RL 92 yX4_kind cX4_kind 3 (some .int) 2 := ⟨⟨wd_416, wd_64, wd_419, by decide +kernel⟩, wd_417, wd_418⟩
theorem cw_X4_175 : zz_CV RX4 175 yX4_withMostMemories cX4_withMostMemories 9 (some .int) 4 := ⟨⟨wd_420, wd_64, wd_423, by decide +kernel⟩, wd_422, wd_5⟩
theorem cw_X4_233 : zz_CV RX4 233 yX0_memoriesCounted cX0_memoriesCounted 3 (some .int) 0 := ⟨⟨wd_424, wd_65, wd_427, by decide +kernel⟩, wd_425, wd_426⟩
theorem cw_X0_80 : zz_CS RX0 80 yJ6_bitCount_0f7a4 cJ6_bitCount_0f7a4 1 (some .int) 1 := ⟨⟨wd_428, wd_71, wd_299, by decide +kernel⟩, wd_298⟩
theorem cw_L_96 : zz_CV RL 96 yX4_grime cX4_grime 3 (some .int) 2 := ⟨⟨wd_429, wd_64, wd_432, by decide +kernel⟩, wd_430, wd_431⟩
theorem cw_L_100 : zz_CV RL 100 yX4_best cX4_best 6 (some .int) 1 := ⟨⟨wd_433, wd_64, wd_436, by decide +kernel⟩, wd_434, wd_435⟩
theorem cw_L_104 : zz_CV RL 104 yX4_delay cX4_delay 8 (some .int) 3 := ⟨⟨wd_437, wd_64, wd_440, by decide +kernel⟩, wd_438, wd_439⟩
theorem cw_X4_179 : zz_CS RX4 179 yJ6_bitCount_0f7a4 cJ6_bitCount_0f7a4 1 (some .int) 1 := ⟨⟨wd_441, wd_71, wd_299, by decide +kernel⟩, wd_298⟩
theorem cw_L_108 : zz_CV RL 108 yX4_bears cX4_bears 4 (some .int) 1 := ⟨⟨wd_442, wd_64, wd_445, by decide +kernel⟩, wd_443, wd_444⟩
theorem cw_L_112 : zz_CV RL 112 yX4_fullest cX4_fullest 6 (some .int) 1 := ⟨⟨wd_446, wd_64, wd_449, by decide +kernel⟩, wd_447, wd_448⟩
theorem cw_L_116 : zz_CV RL 116 yX4_feed cX4_feed 4 (some .int) 2 := ⟨⟨wd_450, wd_64, wd_453, by decide +kernel⟩, wd_451, wd_452⟩
theorem cw_X4_185 : zz_CV RX4 185 yX3_put cX3_put 2 none 1 := ⟨⟨wd_454, wd_66, wd_457, by decide +kernel⟩, wd_455, wd_456⟩
theorem cw_L_120 : zz_CV RL 120 yX4_wipe cX4_wipe 2 (some .int) 0 := ⟨⟨wd_458, wd_64, wd_461, by decide +kernel⟩, wd_459, wd_460⟩
theorem cw_L_125 : zz_CV RL 125 yX4_house cX4_house 2 (some .int) 0 := ⟨⟨wd_462, wd_64, wd_465, by decide +kernel⟩, wd_463, wd_464⟩
theorem cw_X4_188 : zz_CV RX4 188 yX3_tellHouse cX3_tellHouse 3 (some .int) 1 := ⟨⟨wd_466, wd_66, wd_469, by decide +kernel⟩, wd_467, wd_468⟩
theorem cw_X3_34 : zz_CV RX3 34 yX3_step cX3_step 1 none 0 := ⟨⟨wd_470, wd_66, wd_473, by decide +kernel⟩, wd_472, wd_6⟩
theorem cw_X3_92 : zz_CS RX3 92 yX3_isLetter cX3_isLetter 1 (some .boolean) 1 := ⟨⟨wd_474, wd_66, wd_476, by decide +kernel⟩, wd_475⟩
theorem cw_X3_95 : zz_CV RX3 95 yX3_stepOverWord cX3_stepOverWord 3 none 0 := ⟨⟨wd_477, wd_66, wd_480, by decide +kernel⟩, wd_479, wd_7⟩
theorem cw_X3_104 : zz_CS RX3 104 yX3_nameOf cX3_nameOf 1 (some (.object "java/lang/String")) 1 := ⟨⟨wd_481, wd_66, wd_483, by decide +kernel⟩, wd_482⟩
theorem cw_X3_108 : zz_CV RX3 108 yJ0_length_8abf5 cJ0_length_8abf5 1 (some .int) 0 := ⟨⟨wd_498, wd_73, wd_501, by decide +kernel⟩, wd_499, wd_500⟩
theorem cw_J0_335 : zz_CV RJ0 335 yJ0_coder_7d493 cJ0_coder_7d493 1 (some .byte) 0 := ⟨⟨wd_502, wd_73, wd_505, by decide +kernel⟩, wd_503, wd_504⟩
theorem cw_X3_113 : zz_CV RX3 113 yJ0_charAt_5068e cJ0_charAt_5068e 2 (some .char) 1 := ⟨⟨wd_508, wd_73, wd_511, by decide +kernel⟩, wd_509, wd_510⟩
theorem cw_J0_492 : zz_CV RJ0 492 yJ0_isLatin1_aae02 cJ0_isLatin1_aae02 1 (some .boolean) 0 := ⟨⟨wd_512, wd_73, wd_515, by decide +kernel⟩, wd_513, wd_514⟩
theorem cw_J0_495 : zz_CS RJ0 495 yJ1_charAt_3b067 cJ1_charAt_3b067 2 (some .char) 2 := ⟨⟨wd_516, wd_74, wd_518, by decide +kernel⟩, wd_517⟩
theorem cw_J1_9 : zz_CS RJ1 9 yJ0_checkIndex_df160 cJ0_checkIndex_df160 2 none 2 := ⟨⟨wd_519, wd_73, wd_521, by decide +kernel⟩, wd_520⟩
theorem cw_J0_1059 : zz_CS RJ0 1059 yJ3_checkIndex_8e157 cJ3_checkIndex_8e157 3 (some .int) 3 := ⟨⟨wd_524, wd_75, wd_526, by decide +kernel⟩, wd_525⟩
theorem cw_J0_498 : zz_CS RJ0 498 yJ2_charAt_3b067 cJ2_charAt_3b067 2 (some .char) 2 := ⟨⟨wd_527, wd_76, wd_529, by decide +kernel⟩, wd_528⟩
theorem cw_J2_67 : zz_CS RJ2 67 yJ2_checkIndex_2214a cJ2_checkIndex_2214a 2 none 2 := ⟨⟨wd_530, wd_76, wd_532, by decide +kernel⟩, wd_531⟩
theorem cw_J2_48 : zz_CS RJ2 48 yJ2_length_9d52b cJ2_length_9d52b 1 (some .int) 1 := ⟨⟨wd_533, wd_76, wd_535, by decide +kernel⟩, wd_534⟩
theorem cw_J2_414 : zz_CS RJ2 414 yJ0_checkIndex_df160 cJ0_checkIndex_df160 2 none 2 := ⟨⟨wd_536, wd_73, wd_521, by decide +kernel⟩, wd_520⟩
theorem cw_J2_71 : zz_CS RJ2 71 yJ2_getChar_3b067 cJ2_getChar_3b067 2 (some .char) 2 := ⟨⟨wd_537, wd_76, wd_539, by decide +kernel⟩, wd_538⟩
theorem cw_X3_98 : zz_CS RX3 98 yX3_isDigit cX3_isDigit 1 (some .boolean) 1 := ⟨⟨wd_546, wd_66, wd_548, by decide +kernel⟩, wd_547⟩
theorem cw_X3_101 : zz_CV RX3 101 yX3_stepOverNumber cX3_stepOverNumber 1 none 0 := ⟨⟨wd_549, wd_66, wd_552, by decide +kernel⟩, wd_551, wd_8⟩
theorem cw_X3_117 : zz_CS RX3 117 yJ9_min_7cf53 cJ9_min_7cf53 2 (some .int) 2 := ⟨⟨wd_553, wd_70, wd_335, by decide +kernel⟩, wd_334⟩
theorem cw_X3_37 : zz_CV RX3 37 yX3_tellItem cX3_tellItem 2 (some .boolean) 1 := ⟨⟨wd_554, wd_66, wd_557, by decide +kernel⟩, wd_556, wd_9⟩
theorem cw_X3_41 : zz_CV RX3 41 yX3_tellRoom cX3_tellRoom 3 (some .boolean) 1 := ⟨⟨wd_558, wd_66, wd_561, by decide +kernel⟩, wd_560, wd_10⟩
theorem cw_X3_72 : zz_CV RX3 72 yX3_isNumberTo cX3_isNumberTo 2 (some .boolean) 1 := ⟨⟨wd_562, wd_66, wd_565, by decide +kernel⟩, wd_564, wd_11⟩
theorem cw_X3_61 : zz_CV RX3 61 yX3_isWord cX3_isWord 2 (some .boolean) 1 := ⟨⟨wd_566, wd_66, wd_569, by decide +kernel⟩, wd_568, wd_12⟩
theorem cw_X3_65 : zz_CV RX3 65 yX3_tellMemories cX3_tellMemories 2 (some .boolean) 0 := ⟨⟨wd_570, wd_66, wd_573, by decide +kernel⟩, wd_572, wd_13⟩
theorem cw_X3_44 : zz_CV RX3 44 yX3_tellFalls cX3_tellFalls 2 (some .boolean) 1 := ⟨⟨wd_574, wd_66, wd_577, by decide +kernel⟩, wd_576, wd_14⟩
theorem cw_X3_47 : zz_CV RX3 47 yX3_tellWash cX3_tellWash 2 (some .boolean) 1 := ⟨⟨wd_578, wd_66, wd_581, by decide +kernel⟩, wd_580, wd_15⟩
theorem cw_X3_89 : zz_CV RX3 89 yX0_washOne cX0_washOne 4 (some .int) 1 := ⟨⟨wd_582, wd_65, wd_344, by decide +kernel⟩, wd_342, wd_343⟩
theorem cw_X3_52 : zz_CV RX3 52 yX3_tellDuster cX3_tellDuster 3 (some .boolean) 1 := ⟨⟨wd_583, wd_66, wd_586, by decide +kernel⟩, wd_585, wd_16⟩
theorem cw_X3_55 : zz_CV RX3 55 yX0_addDuster cX0_addDuster 3 (some .int) 1 := ⟨⟨wd_587, wd_65, wd_272, by decide +kernel⟩, wd_270, wd_271⟩
theorem cw_L_129 : zz_CV RL 129 yX4_sheet cX4_sheet 5 (some .int) 3 := ⟨⟨wd_589, wd_64, wd_592, by decide +kernel⟩, wd_590, wd_591⟩
theorem cw_X4_192 : zz_CV RX4 192 yX4_sheetAt cX4_sheetAt 2 (some (.object "DusterRounds$Sheet")) 1 := ⟨⟨wd_593, wd_64, wd_596, by decide +kernel⟩, wd_595, wd_17⟩
theorem cw_X4_197 : zz_CV RX4 197 yX2_begin cX2_begin 4 (some .int) 2 := ⟨⟨wd_598, wd_67, wd_601, by decide +kernel⟩, wd_599, wd_600⟩
theorem cw_L_135 : zz_CV RL 135 yX4_write cX4_write 8 (some .long) 3 := ⟨⟨wd_602, wd_64, wd_605, by decide +kernel⟩, wd_603, wd_604⟩
theorem cw_X4_200 : zz_CV RX4 200 yX2_isMissing cX2_isMissing 1 (some .boolean) 0 := ⟨⟨wd_606, wd_67, wd_609, by decide +kernel⟩, wd_607, wd_608⟩
theorem cw_X4_212 : zz_CV RX4 212 yX2_put cX2_put 4 none 2 := ⟨⟨wd_611, wd_67, wd_614, by decide +kernel⟩, wd_612, wd_613⟩
theorem cw_L_140 : zz_CV RL 140 yX4_copy cX4_copy 8 (some .int) 5 := ⟨⟨wd_615, wd_64, wd_618, by decide +kernel⟩, wd_616, wd_617⟩
theorem cw_X4_218 : zz_CV RX4 218 yX2_hasRun cX2_hasRun 3 (some .boolean) 2 := ⟨⟨wd_619, wd_67, wd_622, by decide +kernel⟩, wd_620, wd_621⟩
theorem cw_L_145 : zz_CV RL 145 yX4_lays cX4_lays 7 (some .int) 1 := ⟨⟨wd_624, wd_64, wd_627, by decide +kernel⟩, wd_625, wd_626⟩
theorem cw_L_149 : zz_CV RL 149 yX4_book cX4_book 5 (some .int) 2 := ⟨⟨wd_629, wd_64, wd_632, by decide +kernel⟩, wd_630, wd_631⟩
theorem cw_L_153 : zz_CV RL 153 yX4_read cX4_read 8 (some .int) 3 := ⟨⟨wd_633, wd_64, wd_636, by decide +kernel⟩, wd_634, wd_635⟩
theorem cw_X4_229 : zz_CV RX4 229 yX4_aheadGoesAs cX4_aheadGoesAs 4 (some .boolean) 2 := ⟨⟨wd_637, wd_64, wd_640, by decide +kernel⟩, wd_639, wd_18⟩
theorem cw_L_157 : zz_CV RL 157 yX4_image cX4_image 1 (some .int) 0 := ⟨⟨wd_641, wd_64, wd_644, by decide +kernel⟩, wd_642, wd_643⟩
theorem cw_L_161 : zz_CV RL 161 yX4_undo cX4_undo 1 (some .int) 0 := ⟨⟨wd_645, wd_64, wd_648, by decide +kernel⟩, wd_646, wd_647⟩
theorem cw_L_165 : zz_CV RL 165 yX4_tear cX4_tear 2 (some .int) 0 := ⟨⟨wd_649, wd_64, wd_652, by decide +kernel⟩, wd_650, wd_651⟩
theorem cw_L_169 : zz_CV RL 169 yX4_count cX4_count 2 (some .int) 1 := ⟨⟨wd_653, wd_64, wd_656, by decide +kernel⟩, wd_654, wd_655⟩
theorem cw_X4_236 : zz_CV RX4 236 yX0_grimeOfAll cX0_grimeOfAll 3 (some .int) 0 := ⟨⟨wd_657, wd_65, wd_660, by decide +kernel⟩, wd_658, wd_659⟩
theorem cw_L_173 : zz_CV RL 173 yX4_status cX4_status 4 (some .int) 1 := ⟨⟨wd_661, wd_64, wd_664, by decide +kernel⟩, wd_662, wd_663⟩
theorem cw_X5_44 : zz_CV RX5 44 yX5_places cX5_places 4 none 3 := ⟨⟨wd_671, wd_68, wd_674, by decide +kernel⟩, wd_673, wd_19⟩
theorem cw_L_17 : zz_CV RL 17 yX5_falls cX5_falls 2 (some .int) 1 := ⟨⟨wd_733, wd_68, wd_736, by decide +kernel⟩, wd_734, wd_735⟩
theorem cw_X5_49 : zz_CS RX5 49 yX5_in cX5_in 3 (some .boolean) 3 := ⟨⟨wd_737, wd_68, wd_739, by decide +kernel⟩, wd_738⟩
theorem cw_X5_53 : zz_CV RX5 53 yX5_becomes cX5_becomes 4 (some .int) 2 := ⟨⟨wd_740, wd_68, wd_743, by decide +kernel⟩, wd_742, wd_20⟩
theorem cw_X5_57 : zz_CV RX5 57 yX5_finds cX5_finds 2 (some .int) 1 := ⟨⟨wd_745, wd_68, wd_748, by decide +kernel⟩, wd_747, wd_21⟩
theorem cw_L_22 : zz_CV RL 22 yX5_room cX5_room 5 (some .int) 3 := ⟨⟨wd_749, wd_68, wd_752, by decide +kernel⟩, wd_750, wd_751⟩
theorem cw_X5_61 : zz_CS RX5 61 yX5_isRoom cX5_isRoom 1 (some .boolean) 1 := ⟨⟨wd_753, wd_68, wd_755, by decide +kernel⟩, wd_754⟩
theorem cw_L_27 : zz_CV RL 27 yX5_roomOf cX5_roomOf 3 (some .int) 2 := ⟨⟨wd_756, wd_68, wd_759, by decide +kernel⟩, wd_757, wd_758⟩
theorem cw_X5_71 : zz_CV RX5 71 yX5_there cX5_there 3 (some .int) 2 := ⟨⟨wd_760, wd_68, wd_763, by decide +kernel⟩, wd_762, wd_22⟩
theorem cw_X5_74 : zz_CV RX5 74 yX5_inRoom cX5_inRoom 4 (some .int) 1 := ⟨⟨wd_764, wd_68, wd_767, by decide +kernel⟩, wd_766, wd_23⟩
theorem cw_X5_68 : zz_CV RX5 68 yX5_roomOfOne cX5_roomOfOne 2 (some .int) 1 := ⟨⟨wd_768, wd_68, wd_771, by decide +kernel⟩, wd_770, wd_24⟩
theorem cw_X5_65 : zz_CV RX5 65 yX5_its cX5_its 3 (some .int) 2 := ⟨⟨wd_772, wd_68, wd_775, by decide +kernel⟩, wd_774, wd_25⟩
theorem cw_L_31 : zz_CV RL 31 yX5_now cX5_now 2 (some .int) 1 := ⟨⟨wd_776, wd_68, wd_779, by decide +kernel⟩, wd_777, wd_778⟩
theorem cw_X5_80 : zz_CV RX5 80 yX5_dustOfAll cX5_dustOfAll 3 (some .int) 0 := ⟨⟨wd_780, wd_68, wd_783, by decide +kernel⟩, wd_782, wd_26⟩
theorem cw_X5_84 : zz_CV RX5 84 yX5_common cX5_common 3 (some .int) 0 := ⟨⟨wd_784, wd_68, wd_787, by decide +kernel⟩, wd_786, wd_27⟩
theorem cw_X5_87 : zz_CV RX5 87 yX5_anywhere cX5_anywhere 3 (some .int) 0 := ⟨⟨wd_788, wd_68, wd_791, by decide +kernel⟩, wd_790, wd_28⟩
theorem cw_X5_90 : zz_CV RX5 90 yX5_heldByAny cX5_heldByAny 3 (some .int) 0 := ⟨⟨wd_792, wd_68, wd_795, by decide +kernel⟩, wd_794, wd_29⟩
theorem cw_L_35 : zz_CV RL 35 yX5_duster cX5_duster 2 (some .int) 1 := ⟨⟨wd_796, wd_68, wd_799, by decide +kernel⟩, wd_797, wd_798⟩
theorem cw_X5_96 : zz_CS RX5 96 yX5_isKind cX5_isKind 1 (some .boolean) 1 := ⟨⟨wd_800, wd_68, wd_802, by decide +kernel⟩, wd_801⟩
theorem cw_X5_100 : zz_CV RX5 100 yX5_adds cX5_adds 5 none 3 := ⟨⟨wd_804, wd_68, wd_807, by decide +kernel⟩, wd_806, wd_30⟩
theorem cw_X5_93 : zz_CV RX5 93 yX5_puts cX5_puts 4 none 3 := ⟨⟨wd_808, wd_68, wd_811, by decide +kernel⟩, wd_810, wd_31⟩
theorem cw_L_39 : zz_CV RL 39 yX5_of cX5_of 3 (some .int) 2 := ⟨⟨wd_812, wd_68, wd_815, by decide +kernel⟩, wd_813, wd_814⟩
theorem cw_X5_103 : zz_CV RX5 103 yX5_isOne cX5_isOne 2 (some .boolean) 1 := ⟨⟨wd_816, wd_68, wd_819, by decide +kernel⟩, wd_818, wd_32⟩
theorem cw_X5_106 : zz_CV RX5 106 yX5_wipes cX5_wipes 5 (some .int) 1 := ⟨⟨wd_820, wd_68, wd_823, by decide +kernel⟩, wd_822, wd_33⟩
theorem cw_X5_109 : zz_CV RX5 109 yX5_takesUp cX5_takesUp 2 (some .int) 1 := ⟨⟨wd_824, wd_68, wd_827, by decide +kernel⟩, wd_826, wd_34⟩
theorem cw_X5_112 : zz_CV RX5 112 yX5_leaves cX5_leaves 3 (some .int) 1 := ⟨⟨wd_828, wd_68, wd_831, by decide +kernel⟩, wd_830, wd_35⟩
theorem cw_X5_115 : zz_CV RX5 115 yX5_isKeeping cX5_isKeeping 3 (some .boolean) 1 := ⟨⟨wd_832, wd_68, wd_835, by decide +kernel⟩, wd_834, wd_36⟩
theorem cw_X5_77 : zz_CS RX5 77 yX5_bits cX5_bits 3 (some .int) 1 := ⟨⟨wd_836, wd_68, wd_838, by decide +kernel⟩, wd_837⟩
theorem cw_L_43 : zz_CV RL 43 yX5_set cX5_set 4 (some .int) 3 := ⟨⟨wd_839, wd_68, wd_842, by decide +kernel⟩, wd_840, wd_841⟩
theorem cw_X5_118 : zz_CS RX5 118 yX5_isPart cX5_isPart 2 (some .boolean) 2 := ⟨⟨wd_843, wd_68, wd_845, by decide +kernel⟩, wd_844⟩
theorem cw_L_47 : zz_CV RL 47 yX5_turn cX5_turn 3 (some .int) 2 := ⟨⟨wd_846, wd_68, wd_849, by decide +kernel⟩, wd_847, wd_848⟩
theorem cw_L_51 : zz_CV RL 51 yX5_as cX5_as 5 (some .int) 2 := ⟨⟨wd_850, wd_68, wd_853, by decide +kernel⟩, wd_851, wd_852⟩
theorem cw_L_55 : zz_CV RL 55 yX5_through cX5_through 3 (some .int) 2 := ⟨⟨wd_855, wd_68, wd_858, by decide +kernel⟩, wd_856, wd_857⟩
theorem cw_X5_130 : zz_CV RX5 130 yX5_goes cX5_goes 9 (some .int) 2 := ⟨⟨wd_859, wd_68, wd_862, by decide +kernel⟩, wd_861, wd_37⟩
theorem cw_X5_123 : zz_CS RX5 123 yX5_least cX5_least 4 (some .int) 2 := ⟨⟨wd_863, wd_68, wd_865, by decide +kernel⟩, wd_864⟩
theorem cw_X5_126 : zz_CS RX5 126 yX5_held cX5_held 3 (some .int) 3 := ⟨⟨wd_866, wd_68, wd_868, by decide +kernel⟩, wd_867⟩
theorem cw_L_59 : zz_CV RL 59 yX5_wash cX5_wash 2 (some .int) 1 := ⟨⟨wd_869, wd_68, wd_872, by decide +kernel⟩, wd_870, wd_871⟩
theorem cw_X5_133 : zz_CV RX5 133 yX5_washes cX5_washes 4 (some .int) 1 := ⟨⟨wd_873, wd_68, wd_876, by decide +kernel⟩, wd_875, wd_38⟩
theorem cw_L_63 : zz_CV RL 63 yX5_shake cX5_shake 2 (some .int) 1 := ⟨⟨wd_877, wd_68, wd_880, by decide +kernel⟩, wd_878, wd_879⟩
theorem cw_X5_136 : zz_CV RX5 136 yX5_shakes cX5_shakes 4 (some .int) 1 := ⟨⟨wd_881, wd_68, wd_884, by decide +kernel⟩, wd_883, wd_39⟩
theorem cw_L_67 : zz_CV RL 67 yX5_days cX5_days 2 (some .int) 1 := ⟨⟨wd_885, wd_68, wd_888, by decide +kernel⟩, wd_886, wd_887⟩
theorem cw_X5_143 : zz_CV RX5 143 yX5_passes cX5_passes 3 none 1 := ⟨⟨wd_890, wd_68, wd_893, by decide +kernel⟩, wd_892, wd_40⟩
theorem cw_X5_139 : zz_CV RX5 139 yX5_oneDay cX5_oneDay 2 none 0 := ⟨⟨wd_894, wd_68, wd_897, by decide +kernel⟩, wd_896, wd_41⟩
theorem cw_L_71 : zz_CV RL 71 yX5_on cX5_on 4 (some .int) 3 := ⟨⟨wd_898, wd_68, wd_901, by decide +kernel⟩, wd_899, wd_900⟩
theorem cw_X5_151 : zz_CV RX5 151 yX5_behind cX5_behind 4 (some .int) 2 := ⟨⟨wd_902, wd_68, wd_905, by decide +kernel⟩, wd_904, wd_42⟩
theorem cw_X5_147 : zz_CV RX5 147 yX5_moveAll cX5_moveAll 4 none 2 := ⟨⟨wd_906, wd_68, wd_909, by decide +kernel⟩, wd_908, wd_43⟩
theorem cw_L_75 : zz_CV RL 75 yX5_then cX5_then 4 (some .int) 3 := ⟨⟨wd_910, wd_68, wd_913, by decide +kernel⟩, wd_911, wd_912⟩
theorem cw_L_79 : zz_CV RL 79 yX5_clean cX5_clean 3 (some .int) 1 := ⟨⟨wd_914, wd_68, wd_917, by decide +kernel⟩, wd_915, wd_916⟩
theorem cw_L_83 : zz_CV RL 83 yX5_comes cX5_comes 3 (some .int) 2 := ⟨⟨wd_919, wd_68, wd_922, by decide +kernel⟩, wd_920, wd_921⟩
theorem cw_X5_155 : zz_CS RX5 155 yX5_isMemory cX5_isMemory 1 (some .boolean) 1 := ⟨⟨wd_923, wd_68, wd_925, by decide +kernel⟩, wd_924⟩
theorem cw_X5_158 : zz_CV RX5 158 yX5_whenHas cX5_whenHas 4 (some .int) 2 := ⟨⟨wd_926, wd_68, wd_929, by decide +kernel⟩, wd_928, wd_44⟩
theorem cw_L_87 : zz_CV RL 87 yX5_holds cX5_holds 3 (some .int) 2 := ⟨⟨wd_930, wd_68, wd_933, by decide +kernel⟩, wd_931, wd_932⟩
theorem cw_L_91 : zz_CV RL 91 yX5_round cX5_round 7 (some .int) 2 := ⟨⟨wd_934, wd_68, wd_937, by decide +kernel⟩, wd_935, wd_936⟩
theorem cw_X5_164 : zz_CV RX5 164 yX5_dustBehind cX5_dustBehind 3 (some .int) 1 := ⟨⟨wd_938, wd_68, wd_941, by decide +kernel⟩, wd_940, wd_45⟩
theorem cw_L_95 : zz_CV RL 95 yX5_kind cX5_kind 3 (some .int) 2 := ⟨⟨wd_942, wd_68, wd_945, by decide +kernel⟩, wd_943, wd_944⟩
theorem cw_X5_170 : zz_CV RX5 170 yX5_mostBy cX5_mostBy 9 (some .int) 4 := ⟨⟨wd_946, wd_68, wd_949, by decide +kernel⟩, wd_948, wd_46⟩
theorem cw_X5_167 : zz_CV RX5 167 yX5_memoriesBehind cX5_memoriesBehind 3 (some .int) 1 := ⟨⟨wd_950, wd_68, wd_953, by decide +kernel⟩, wd_952, wd_47⟩
theorem cw_X5_161 : zz_CV RX5 161 yX5_memoriesOfAll cX5_memoriesOfAll 3 (some .int) 0 := ⟨⟨wd_954, wd_68, wd_957, by decide +kernel⟩, wd_956, wd_48⟩
theorem cw_L_99 : zz_CV RL 99 yX5_grime cX5_grime 3 (some .int) 2 := ⟨⟨wd_958, wd_68, wd_961, by decide +kernel⟩, wd_959, wd_960⟩
theorem cw_L_103 : zz_CV RL 103 yX5_best cX5_best 6 (some .int) 1 := ⟨⟨wd_962, wd_68, wd_965, by decide +kernel⟩, wd_963, wd_964⟩
theorem cw_L_107 : zz_CV RL 107 yX5_delay cX5_delay 8 (some .int) 3 := ⟨⟨wd_966, wd_68, wd_969, by decide +kernel⟩, wd_967, wd_968⟩
theorem cw_L_111 : zz_CV RL 111 yX5_bears cX5_bears 5 (some .int) 1 := ⟨⟨wd_970, wd_68, wd_973, by decide +kernel⟩, wd_971, wd_972⟩
theorem cw_L_115 : zz_CV RL 115 yX5_fullest cX5_fullest 4 (some .int) 1 := ⟨⟨wd_974, wd_68, wd_977, by decide +kernel⟩, wd_975, wd_976⟩
theorem cw_L_119 : zz_CV RL 119 yX5_feed cX5_feed 4 (some .int) 2 := ⟨⟨wd_978, wd_68, wd_981, by decide +kernel⟩, wd_979, wd_980⟩
theorem cw_L_124 : zz_CV RL 124 yX5_wipe cX5_wipe 2 (some .int) 0 := ⟨⟨wd_982, wd_68, wd_985, by decide +kernel⟩, wd_983, wd_984⟩
theorem cw_L_128 : zz_CV RL 128 yX5_house cX5_house 3 (some .int) 0 := ⟨⟨wd_986, wd_68, wd_989, by decide +kernel⟩, wd_987, wd_988⟩
theorem cw_X5_229 : zz_CV RX5 229 yX5_advance cX5_advance 2 none 0 := ⟨⟨wd_990, wd_68, wd_993, by decide +kernel⟩, wd_992, wd_49⟩
theorem cw_X5_184 : zz_CV RX5 184 yX5_byteAt cX5_byteAt 2 (some .int) 1 := ⟨⟨wd_994, wd_68, wd_997, by decide +kernel⟩, wd_996, wd_50⟩
theorem cw_X5_187 : zz_CS RX5 187 yX5_isLetter cX5_isLetter 1 (some .boolean) 1 := ⟨⟨wd_998, wd_68, wd_1000, by decide +kernel⟩, wd_999⟩
theorem cw_X5_190 : zz_CS RX5 190 yX5_isDigit cX5_isDigit 1 (some .boolean) 1 := ⟨⟨wd_1001, wd_68, wd_1003, by decide +kernel⟩, wd_1002⟩
theorem cw_X5_266 : zz_CV RX5 266 yX5_wantItem cX5_wantItem 2 none 0 := ⟨⟨wd_1007, wd_68, wd_1010, by decide +kernel⟩, wd_1009, wd_51⟩
theorem cw_X5_251 : zz_CV RX5 251 yX5_kindHere cX5_kindHere 1 (some .int) 0 := ⟨⟨wd_1011, wd_68, wd_1014, by decide +kernel⟩, wd_1013, wd_52⟩
theorem cw_X5_211 : zz_CV RX5 211 yX5_isWord cX5_isWord 3 (some .boolean) 1 := ⟨⟨wd_1016, wd_68, wd_1019, by decide +kernel⟩, wd_1018, wd_53⟩
theorem cw_X5_254 : zz_CV RX5 254 yX5_wantOne cX5_wantOne 4 none 1 := ⟨⟨wd_1025, wd_68, wd_1028, by decide +kernel⟩, wd_1027, wd_54⟩
theorem cw_X5_237 : zz_CV RX5 237 yX5_mayMemories cX5_mayMemories 6 (some .int) 1 := ⟨⟨wd_1030, wd_68, wd_1033, by decide +kernel⟩, wd_1032, wd_55⟩
theorem cw_X5_232 : zz_CV RX5 232 yX5_wantNumber cX5_wantNumber 4 (some .int) 2 := ⟨⟨wd_1034, wd_68, wd_1037, by decide +kernel⟩, wd_1036, wd_56⟩
theorem cw_X5_243 : zz_CV RX5 243 yX5_mayWant cX5_mayWant 6 (some .int) 4 := ⟨⟨wd_1039, wd_68, wd_1042, by decide +kernel⟩, wd_1041, wd_57⟩
theorem cw_X5_259 : zz_CV RX5 259 yX5_wantRoom cX5_wantRoom 4 none 0 := ⟨⟨wd_1044, wd_68, wd_1047, by decide +kernel⟩, wd_1046, wd_58⟩
theorem cw_L_132 : zz_CV RL 132 yX5_sheet cX5_sheet 5 (some .int) 3 := ⟨⟨wd_1052, wd_68, wd_1055, by decide +kernel⟩, wd_1053, wd_1054⟩
theorem cw_X5_269 : zz_CS RX5 269 yX5_isSheet cX5_isSheet 1 (some .boolean) 1 := ⟨⟨wd_1056, wd_68, wd_1058, by decide +kernel⟩, wd_1057⟩
theorem cw_L_139 : zz_CV RL 139 yX5_write cX5_write 7 (some .long) 3 := ⟨⟨wd_1060, wd_68, wd_1063, by decide +kernel⟩, wd_1061, wd_1062⟩
theorem cw_X5_274 : zz_CS RX5 274 yX5_narrow cX5_narrow 3 (some .long) 2 := ⟨⟨wd_1065, wd_68, wd_1067, by decide +kernel⟩, wd_1066⟩
theorem cw_L_144 : zz_CV RL 144 yX5_copy cX5_copy 7 (some .int) 5 := ⟨⟨wd_1068, wd_68, wd_1071, by decide +kernel⟩, wd_1069, wd_1070⟩
theorem cw_X5_278 : zz_CV RX5 278 yX5_isPart_ cX5_isPart_ 4 (some .boolean) 3 := ⟨⟨wd_1072, wd_68, wd_1075, by decide +kernel⟩, wd_1074, wd_59⟩
theorem cw_L_148 : zz_CV RL 148 yX5_lays cX5_lays 7 (some .int) 1 := ⟨⟨wd_1076, wd_68, wd_1079, by decide +kernel⟩, wd_1077, wd_1078⟩
theorem cw_X5_280 : zz_CV RX5 280 yX5_badSheet cX5_badSheet 2 (some .int) 1 := ⟨⟨wd_1080, wd_68, wd_1083, by decide +kernel⟩, wd_1082, wd_60⟩
theorem cw_L_152 : zz_CV RL 152 yX5_book cX5_book 5 (some .int) 2 := ⟨⟨wd_1085, wd_68, wd_1088, by decide +kernel⟩, wd_1086, wd_1087⟩
theorem cw_L_156 : zz_CV RL 156 yX5_read cX5_read 7 (some .int) 3 := ⟨⟨wd_1089, wd_68, wd_1092, by decide +kernel⟩, wd_1090, wd_1091⟩
theorem cw_X5_285 : zz_CV RX5 285 yX5_isSo cX5_isSo 5 (some .boolean) 2 := ⟨⟨wd_1093, wd_68, wd_1096, by decide +kernel⟩, wd_1095, wd_61⟩
theorem cw_L_160 : zz_CV RL 160 yX5_image cX5_image 1 (some .int) 0 := ⟨⟨wd_1097, wd_68, wd_1100, by decide +kernel⟩, wd_1098, wd_1099⟩
theorem cw_L_164 : zz_CV RL 164 yX5_undo cX5_undo 1 (some .int) 0 := ⟨⟨wd_1101, wd_68, wd_1104, by decide +kernel⟩, wd_1102, wd_1103⟩
theorem cw_L_168 : zz_CV RL 168 yX5_tear cX5_tear 2 (some .int) 0 := ⟨⟨wd_1105, wd_68, wd_1108, by decide +kernel⟩, wd_1106, wd_1107⟩
theorem cw_L_172 : zz_CV RL 172 yX5_count cX5_count 2 (some .int) 1 := ⟨⟨wd_1109, wd_68, wd_1112, by decide +kernel⟩, wd_1110, wd_1111⟩
theorem cw_X5_291 : zz_CV RX5 291 yX5_grimeOfAll cX5_grimeOfAll 3 (some .int) 0 := ⟨⟨wd_1113, wd_68, wd_1116, by decide +kernel⟩, wd_1115, wd_62⟩
theorem cw_L_176 : zz_CV RL 176 yX5_status cX5_status 4 (some .int) 1 := ⟨⟨wd_1117, wd_68, wd_1120, by decide +kernel⟩, wd_1118, wd_1119⟩
theorem cm_X0_57 : zz_CM RX0 57 Lib.Math.min.name Lib.Math.min.code := ⟨wd_333, wd_334, wd_70, wd_335⟩
theorem cm_X1_9 : zz_CM RX1 9 Lib.Math.max.name Lib.Math.max.code := ⟨wd_291, wd_292, wd_70, wd_293⟩
theorem cm_X3_117 : zz_CM RX3 117 Lib.Math.min.name Lib.Math.min.code := ⟨wd_553, wd_334, wd_70, wd_335⟩
theorem ca_X0_40 : zz_CA RX0 40 := ⟨wd_379, wd_381, wd_380, wd_72⟩
theorem ca_X4_221 : zz_CA RX4 221 := ⟨wd_623, wd_381, wd_380, wd_72⟩

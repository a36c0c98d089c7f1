/-! how each call changes the state -/
def litA (Z : va_AS) (h x : Nat) : va_AS := (aN Z + 1, va_up (aH Z) (aN Z) x, va_up (aV Z) (aN Z) ↑h, aL Z, va_up (aR Z) h (ins (ka (aL Z h) (va_up (aH Z) (aN Z) x)) (aR Z h) (aN Z)), aK Z, aM Z, aG Z, aT Z, aQ Z)
def fadA (Z : va_AS) (h e x : Nat) : va_AS := (aN Z, va_up (aH Z) e x, aV Z, aL Z, va_up (aR Z) h (ins (ka (aL Z h) (va_up (aH Z) e x)) (del (aR Z h) e) e), aK Z, aM Z, aG Z, aT Z, aQ Z)
def queA (Z : va_AS) (h e : Nat) : va_AS := (aN Z, aH Z, va_up (aV Z) e (-1), aL Z, va_up (aR Z) h (del (aR Z h) e), aK Z, aM Z, aG Z, aT Z, aQ Z + 1)
def rkX (Z : va_AS) (h : Nat) : Nat := (rkL (aL Z h) (aH Z) (aR Z h)).headD 0
def rakA (Z : va_AS) (h : Nat) : va_AS := (aN Z, aH Z, va_up (aV Z) (rkX Z h) (-1), va_up (aL Z) h (rkLo (aL Z h) (aH Z) (aR Z h)), va_up (aR Z) h (rkL (aL Z h) (aH Z) (aR Z h)).tail, va_up (aK Z) (rkX Z h) 1, mvA 1 (aM Z) (rkB (aL Z h) (aH Z) (aR Z h)), upd (aG Z) h (aG Z h + 1), aT Z + iI ↑(rkB (aL Z h) (aH Z) (aR Z h)).length, aQ Z)
def raiA (Z : va_AS) (h x : Nat) : va_AS := (aN Z, aH Z, aV Z, va_up (aL Z) h x, va_up (aR Z) h (insA (ka x (aH Z)) [] (aR Z h)), aK Z, mvA 1 (aM Z) (aR Z h), aG Z, aT Z + iI ↑(aR Z h).length, aQ Z)
def pouA (Z : va_AS) (h : Nat) : va_AS := (aN Z, aH Z, avM (aV Z) (1 - h) (aR Z h), va_up (aL Z) h 0, va_up (va_up (aR Z) (1 - h) (insA (ka (aL Z (1 - h)) (aH Z)) (aR Z (1 - h)) (aR Z h))) h [], aK Z, mvA 1 (aM Z) (aR Z h), aG Z, aT Z + iI ↑(aR Z h).length, aQ Z)

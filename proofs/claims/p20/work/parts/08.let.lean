/-- names for stores and values in decompiled rows -/
def am_lt (g : am_S) (k : am_S → am_R) : am_R := k g
def am_lv (v : Int32) (k : Int32 → am_R) : am_R := k v

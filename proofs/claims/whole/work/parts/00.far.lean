/-! A throw caught by a row of the method's own table stands in the rest of the library: with this name ahead of all parts a round is read over the whole of it from the first part on. -/
def far_caught := @Jvm.Stand.thenCaughtThrough

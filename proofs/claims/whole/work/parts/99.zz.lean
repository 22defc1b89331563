#print Jvm.Stand.multianewarray2F

/** Counts and prints what is not as due. */
final class Check {
    interface Call {
        Object run();
    }

    private final String name;
    private int wrong;
    private int all;

    Check(String name) {
        this.name = name;
    }

    void due(String what, Object want, Call call) {
        all++;
        Object got;
        try {
            got = call.run();
        } catch (RuntimeException e) {
            got = e.getClass();
        }
        if (!want.equals(got)) {
            wrong++;
            System.out.println(name + ": " + what + " answered " + got + ", due is " + want);
        }
    }

    void finish() {
        System.out.println(name + ": " + (all - wrong) + " of " + all + " as due");
        if (wrong > 0) {
            System.exit(1);
        }
    }
}

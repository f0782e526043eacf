/** Counts what is not as due, tells it, and ends the program with 1 if there was any. */
final class Expect {
    private int asked;
    private int wrong;
    private String part = "";

    void part(String name) {
        part = name;
    }

    void is(String call, long due, long got) {
        asked++;
        if (got != due) {
            wrong++;
            System.out.println(part + ": " + call + " answered " + got + ", due is " + due);
        }
    }

    void holds(String what, boolean is) {
        asked++;
        if (!is) {
            wrong++;
            System.out.println(part + ": not so: " + what);
        }
    }

    boolean isWrong() {
        return wrong != 0;
    }

    void end() {
        System.out.println("asked " + asked + ", wrong " + wrong);
        if (wrong != 0 || asked == 0) {
            System.exit(1);
        }
    }
}

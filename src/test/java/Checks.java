/** Counts what is not as due, prints it, and ends the program with exit code 1 if there was any. */
final class Checks {
    private final String name;
    private int made = 0;
    private int wrong = 0;

    Checks(String name) {
        this.name = name;
    }

    void same(String what, long got, long due) {
        made++;
        if (got != due) {
            wrong++;
            System.out.println(name + ": " + what + " answered " + got + ", due is " + due);
        }
    }

    void isSo(String what, boolean so) {
        made++;
        if (!so) {
            wrong++;
            System.out.println(name + ": not so: " + what);
        }
    }

    int wrong() {
        return wrong;
    }

    void close() {
        System.out.println(name + ": " + made + " checks, " + wrong + " wrong");
        if (wrong != 0 || made == 0) {
            System.exit(1);
        }
    }
}

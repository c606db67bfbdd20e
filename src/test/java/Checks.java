/** Counts answers that are not as due, and ends a test with exit code 1 if there was one. */
final class Checks {
    private int made = 0;
    private int wrong = 0;
    private String part = "";

    void part(String name) {
        part = name;
    }

    void due(String what, long got, long want) {
        made++;
        if (got != want) {
            wrong++;
            System.out.println(part + ": " + what + " answered " + got + ", due is " + want);
        }
    }

    void holds(String what, boolean so) {
        made++;
        if (!so) {
            wrong++;
            System.out.println(part + ": " + what);
        }
    }

    boolean hasMany(int many) {
        return wrong >= many;
    }

    void end(String title) {
        System.out.println(title + ": " + made + " checks, " + wrong + " wrong");
        if (wrong != 0) {
            System.exit(1);
        }
    }
}

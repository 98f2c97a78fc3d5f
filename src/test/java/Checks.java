import java.util.Objects;

/** Counts and prints the calls whose answer is not the one that is due. */
final class Checks {
    private long looked = 0;
    private long wrong = 0;
    private String where = "";

    /** Tells what the calls that follow belong to. */
    void at(String where) {
        this.where = where;
    }

    void due(String call, long got, long want) {
        same(call, got, want);
    }

    void same(String call, Object got, Object want) {
        looked++;
        if (!Objects.equals(got, want)) {
            wrong++;
            System.out.println(where + ": " + call + " answered " + got + ", due is " + want);
        }
    }

    long wrong() {
        return wrong;
    }

    void end() {
        System.out.println(wrong == 0 ? "all " + looked + " answers are as due" : wrong + " answers are not as due");
        if (wrong != 0) {
            System.exit(1);
        }
    }
}

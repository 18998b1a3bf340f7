/** The three examples of the document, call by call. */
public final class ExamplesTest {
    public static void main(String[] args) {
        Check check = new Check();
        Calls.run(check, new SpunModules(), "example 1",
            "sizes(0, 3) = 3; sets(0, 0, 0, 1, 1) = 0; sets(0, 0, 1, 2, 1) = 0; sets(0, 1, 2, 2, 1) = 0; "
            + "spun(0, 1) = 3; row(0, 1, 0) = 1; row(0, 2, 1) = 4; simple(0) = 0; factors(0) = 3; "
            + "factor(0, 0, 0) = 1; factor(0, 0, 1) = 2; ways(0, 0) = 1; layer(0, 0) = 1; layer(0, 1) = 1; "
            + "spaces(0, 1) = 1; digest() = -7119229357639821593");
        Calls.run(check, new SpunModules(), "example 2",
            "begins(3) = 3; sizes(1, 2) = 2; draws(1, 77) = 7; at(1, 0, 0, 1) = 2; moved(1, 1, 5) = 0; "
            + "turns(1, 0, 1, 2) = 6; over(2, 1) = 2; adds(3, 1, 2) = 4; times(3, 1, 3) = -3; common(1, 2) = 2; "
            + "least(3) = 1; telling(1, 0, 0) = 2; back() = 5; told(1) = 1; told(3) = 5; parts(0, 1, 0) = -3");
        Calls.run(check, new SpunModules(), "example 3",
            "type(49) = 1; type(43) = 2; type(97) = 3; type(98) = 4; tells() = 2; sizes(0, 2) = 2; "
            + "sets(0, 0, 0, 1, 1) = 0; sets(0, 1, 1, 0, 1) = 0; word(0, 0, 0) = 0; nulls(0, 0) = 1; "
            + "nulls(0, 1) = 1; poly(0, 0) = 0; poly(0, 1) = 1; type(50) = 5; tells() = -14; rests(1, 0, 0) = 2");
        check.ends();
    }
}

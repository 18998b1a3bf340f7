import java.util.ArrayList;
import java.util.List;

/** What can be seen of an object within its 512 calls, and the check that a refused call leaves it alone. */
final class Refusals {
    private Refusals() { }

    /** A new object behind the calls of a line such as "sizes(0, 3); draws(0, 5)"; the line may be empty. */
    static SpunModules made(String before) {
        SpunModules x = new SpunModules();
        makes(x, before);
        return x;
    }

    static void makes(Object x, String calls) {
        for (String call : calls.split(";")) {
            if (!call.isBlank()) {
                Calls.make(x, call);
            }
        }
    }

    private static long power31(int exponent) {
        long product = 1;
        for (int i = 0; i < exponent; i++) {
            product *= 31;
        }
        return product;
    }

    /** The checksum without the answers of told() before this one: the same for two objects in one state. */
    private static long without(SpunModules x, int first) {
        int n = x.size(0);
        int numbers = 6 + n * n;
        for (int k = 0; k < 4; k++) {
            numbers += 1 + 2 * x.size(k) * x.size(k);
        }
        long h = x.digest();
        for (int what = 0; what < first; what++) {
            h -= x.told(what) * power31(numbers - 1 - what);
        }
        return h;
    }

    /** The state without the numbers of errors. */
    static long bare(SpunModules x) {
        return without(x, 3);
    }

    /** The state without the numbers of errors and of the changes that can be undone. */
    static long present(SpunModules x) {
        return without(x, 4);
    }

    /** Everything that later calls could still show: all kept states, the text and the word. Uses up the object. */
    static List<Long> usedUp(SpunModules x) {
        List<Long> list = new ArrayList<>();
        list.add(bare(x));
        for (int i = x.told(3); i > 0; i--) {
            list.add((long) x.back());
            list.add(bare(x));
        }
        list.add((long) x.back());
        x.begins(3);
        x.sizes(0, 4);
        x.draws(0, 321);
        list.add(bare(x));
        list.add((long) x.tells());
        list.add(bare(x));
        list.add((long) x.clear());
        return list;
    }

    /** The call is refused with this code, is counted once, and nothing else is changed by it. */
    static void refused(Check check, String before, String call, int code) {
        SpunModules x = made(before);
        String told = before + ": " + call;
        int[] counts = {x.told(0), x.told(1), x.told(2)};
        long state = bare(x);
        check.due(told, Calls.make(x, call), code);
        for (int what = 0; what < 3; what++) {
            check.due(told + ", then told(" + what + ")", x.told(what), counts[what] + (what == -2 - code ? 1 : 0));
        }
        check.holds(told + " changes nothing", bare(x) == state);
        check.holds(told + " changes nothing that back() and tells() show", usedUp(x).equals(usedUp(made(before))));
    }
}

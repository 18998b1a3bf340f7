import java.util.ArrayList;
import java.util.List;
import java.util.Random;

/**
 * Runs of some 220 calls with arguments drawn from fixed seeds, each answer compared with that of the model. The
 * digest after each call shows that the state is the same, too. Arguments: the first seed and the number of runs.
 */
public final class ModelTest {
    private static final String[] WORDS = {
        "a", "b", "1", "0", "2", "ab+ba", "a+b", "1+ab", "2ab+1", "aabbab", "2a+b+1", "a+", "+a", "ab2", "aaaaaaa",
        "1aaaaaa+b", "2aaaaaab", "12", "a++b", "c", "3a", "bb+aa+ab+2", "2b+2a+2", "1a+1+1", ""};

    private final int seed;
    private final Random random;
    private final SpunModules real = new SpunModules();
    private final Model model = new Model();
    private final Check check;
    private final List<String> run = new ArrayList<>();
    private boolean good = true;

    private ModelTest(int seed, Check check) {
        this.seed = seed;
        this.random = new Random(seed);
        this.check = check;
    }

    private void call(String name, int... a) {
        long want = Calls.on(model, name, a);
        long got = Calls.on(real, name, a);
        run.add(Calls.told(name, a));
        long digest = real.digest();
        long wantedDigest = model.digest();
        good &= got == want && digest == wantedDigest;
        String told = good ? "" : "run " + seed + ": " + run + ": ";
        check.due(told + "the last call", got, want);
        check.due(told + "the digest", digest, wantedDigest);
    }

    private int any(int n) {
        return random.nextInt(n);
    }

    /** Mostly within 0 to n - 1, at times just outside or far away. */
    private int near(int n) {
        int r = any(60);
        if (r == 0) {
            return -1;
        } else if (r == 1) {
            return n;
        } else if (r == 2) {
            return random.nextInt();
        } else if (r == 3) {
            return random.nextBoolean() ? Integer.MIN_VALUE : Integer.MAX_VALUE;
        }
        return any(Math.max(n, 1));
    }

    private int size(int k) {
        return k >= 0 && k < 4 ? model.mods[k].n : 3;
    }

    private int vectors(int k) {
        return (int) Math.pow(model.p, size(k));
    }

    private int largest() {
        return model.p == 2 ? 6 : 5;
    }

    /** Sparse, block triangular and drawn modules: drawn ones alone are nearly always simple. */
    private void build() {
        int k = near(4);
        switch (any(15)) {
            case 0 -> begin();
            case 1 -> call("sizes", k, 1 + near(largest()));
            case 2 -> sparse(k);
            case 3 -> call("draws", k, any(20) == 0 ? near(1000000) : any(1000000));
            case 4 -> call("turns", k, near(size(k)), near(size(k)), near(model.p));
            case 5 -> call("adds", k, near(4), near(4));
            case 6 -> call("times", k, near(4), near(4));
            case 7 -> call("over", k, near(4));
            case 8 -> {
                int x = near(4);
                call("parts", k, x, near(vectors(x)));
            }
            case 9 -> {
                int x = near(4);
                call("rests", k, x, near(vectors(x)));
            }
            case 10 -> drawn(k, 3);
            case 11 -> drawn(k, largest());
            case 12 -> triangular(k);
            case 13 -> permuted(k);
            default -> call("back");
        }
    }

    private void sparse(int k) {
        for (int i = any(2 * size(k) + 1); i >= 0 && good; i--) {
            call("sets", k, near(2), near(size(k)), near(size(k)), near(model.p));
        }
    }

    /** Rarely, for it empties all modules. */
    private void begin() {
        if (any(6) == 0) {
            call("begins", any(3) == 0 ? near(5) : 2 + any(2));
        }
    }

    private void drawn(int k, int most) {
        call("sizes", k, 1 + any(most));
        call("draws", k, any(1000000));
    }

    /** Entries below the diagonal blocks only: a module with a long socle series. */
    private void triangular(int k) {
        int n = largest() - any(2);
        call("sizes", k, n);
        for (int t = 0; t < 2 * n && good; t++) {
            int i = any(n);
            call("sets", k, any(2), i, any(3) == 0 ? i / 2 * 2 + any(2) : any(i + 1), any(model.p));
        }
    }

    /** Two permutations, at times with signs: modules of groups. */
    private void permuted(int k) {
        int n = 2 + any(largest() - 1);
        call("sizes", k, n);
        for (int g = 0; g < 2; g++) {
            List<Integer> places = new ArrayList<>();
            for (int i = 0; i < n; i++) {
                places.add(any(places.size() + 1), i);
            }
            for (int i = 0; i < n && good; i++) {
                call("sets", k, g, i, places.get(i), 1 + (any(8) == 0 ? any(model.p - 1) : 0));
            }
        }
    }

    private void spell() {
        if (any(4) > 0) {
            call("clear");
        }
        String s = any(6) == 0 ? longText() : WORDS[any(WORDS.length)];
        for (int i = 0; i < s.length() && good; i++) {
            call("type", s.charAt(i));
        }
        if (any(10) == 0) {
            call("type", near(128));
        }
        call("tells");
    }

    private String longText() {
        StringBuilder s = new StringBuilder();
        int length = 36 + any(7);
        while (s.length() < length) {
            s.append("ab+12ab+ab".charAt(any(10)));
            if (Math.floorMod(s.length(), 5) == 4 && any(30) > 0) {
                s.append('+').append(any(3));
            }
        }
        return s.toString();
    }

    private void ask() {
        int k = near(4);
        int n = size(k);
        switch (any(20)) {
            case 0 -> call("size", k);
            case 1 -> call("at", k, near(2), near(n), near(n));
            case 2 -> call("moved", k, near(2), near(vectors(k)));
            case 3 -> call("spun", k, near(vectors(k)));
            case 4 -> call("row", k, near(vectors(k)), near(n + 1));
            case 5 -> call("simple", k);
            case 6 -> call("least", k);
            case 7 -> call("factors", k);
            case 8 -> call("factor", k, near(3), near(4));
            case 9 -> call("factor", k, near(n + 1), near(4));
            case 10 -> call("telling", k, any(n), any(10));
            case 11 -> call("telling", k, near(3), near(2 * n * n + 1));
            case 12 -> call("common", k, near(4));
            case 13 -> call("ways", k, near(4));
            case 14 -> call("layer", k, near(n + 1));
            case 15 -> call("spaces", k, near(7));
            case 16 -> call("word", k, near(n), near(n));
            case 17 -> call("nulls", k, near(3));
            case 18 -> call("poly", k, near(n + 1));
            default -> call("told", near(6));
        }
    }

    private void go(int calls) {
        call("begins", 2 + seed % 2);
        while (run.size() < calls && good) {
            int r = any(30);
            if (r < 10) {
                build();
            } else if (r == 10) {
                spell();
            } else {
                ask();
            }
        }
    }

    public static void main(String[] args) {
        Check check = new Check();
        int first = args.length > 0 ? Integer.parseInt(args[0]) : 1;
        int runs = args.length > 1 ? Integer.parseInt(args[1]) : 200;
        for (int seed = first; seed < first + runs; seed++) {
            new ModelTest(seed, check).go(205);
        }
        check.ends();
    }
}

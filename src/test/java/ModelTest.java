import java.lang.reflect.Method;
import java.lang.reflect.Modifier;
import java.util.ArrayList;
import java.util.Arrays;
import java.util.Comparator;
import java.util.List;
import java.util.Random;

/**
 * Long runs of calls, by seeds, on a WhoSaysOne and on the Model: all answers must be alike, and so
 * must what is told behind each call. Arguments: mostly some that fit, some at the edges, some far out.
 */
public final class ModelTest {
    private static final int[] FAR = {Integer.MIN_VALUE, Integer.MAX_VALUE, -1, 61, 4001, 401, 2147483646, 1 << 30};

    private final Random random;
    private final List<Method> ours = new ArrayList<>();
    private final List<Method> theirs = new ArrayList<>();
    private WhoSaysOne x;
    private Model model;
    private StringBuilder told;
    private boolean wrong;

    private ModelTest(long seed) throws ReflectiveOperationException {
        random = new Random(seed);
        Method[] all = WhoSaysOne.class.getDeclaredMethods();
        Arrays.sort(all, Comparator.comparing(Method::getName));
        for (Method one : all) {
            if (Modifier.isPublic(one.getModifiers())) {
                Method other = Model.class.getDeclaredMethod(one.getName(), one.getParameterTypes());
                ours.add(one);
                theirs.add(other);
            }
        }
    }

    public static void main(String[] args) throws ReflectiveOperationException {
        int runs = args.length > 0 ? Integer.parseInt(args[0]) : 150;
        long from = args.length > 1 ? Long.parseLong(args[1]) : 1;
        Check check = new Check("ModelTest");
        for (long seed = from; seed < from + runs; seed++) {
            ModelTest one = new ModelTest(seed);
            check.due("47 promises have 46 methods, at least", one.ours.size(), 46);
            check.due("run of seed " + seed + " is wrong", one.run() ? 0 : 1, 0);
        }
        check.end();
    }

    private boolean run() throws ReflectiveOperationException {
        x = new WhoSaysOne();
        model = new Model();
        told = new StringBuilder();
        for (int call = 0; call < 500 && !wrong; ) {
            int what = random.nextInt(100);
            if (what < 6) {
                call += writeText();
            } else if (what < 12) {
                call += fillRow();
            } else if (what < 25) {
                call += one("say", new Object[] {sayable()});
            } else if (what < 27) {
                call += askAll();
            } else if (what == 27 && call < 400) {
                call += fillFrom1();
            } else {
                int m = random.nextInt(ours.size());
                call += both(m, arguments(ours.get(m)));
            }
        }
        if (wrong) {
            System.out.println(told);
        }
        return !wrong;
    }

    private int one(String name, Object[] arguments) throws ReflectiveOperationException {
        for (int m = 0; m < ours.size(); m++) {
            if (ours.get(m).getName().equals(name)) {
                return both(m, arguments);
            }
        }
        throw new IllegalStateException(name);
    }

    private int both(int m, Object[] arguments) throws ReflectiveOperationException {
        long got = ((Number) ours.get(m).invoke(x, arguments)).longValue();
        long want = ((Number) theirs.get(m).invoke(model, arguments)).longValue();
        told.append(ours.get(m).getName()).append(Arrays.toString(arguments)).append(" = ").append(got).append('\n');
        if (got != want) {
            told.append("  due is ").append(want).append('\n');
            wrong = true;
        }
        if (x.asked() != model.asked() || x.upper() != model.upper() || x.lower() != model.lower()
                || x.finding() != model.finding() || x.digest() != model.digest()) {
            told.append("  what is told behind it differs: asked ").append(x.asked()).append(", due is ")
                    .append(model.asked()).append('\n');
            wrong = true;
        }
        return 1;
    }

    private int pick(int... values) {
        return values[random.nextInt(values.length)];
    }

    /** 1 seldom, as it ends a GAME. */
    private int sayable() {
        return random.nextInt(40) == 0 ? random.nextInt(70) - 4 : 2 + random.nextInt(random.nextInt(3) == 0 ? 12 : 59);
    }

    private Object[] arguments(Method method) {
        Object[] arguments = new Object[method.getParameterCount()];
        for (int i = 0; i < arguments.length; i++) {
            arguments[i] = random.nextInt(25) == 0 ? pick(FAR) : argument(method.getName(), i);
        }
        return arguments;
    }

    private int argument(String name, int i) {
        switch (name) {
            case "row":
            case "text":
                return i == 0 ? random.nextInt(4) : random.nextInt(9) - 1;
            case "lay":
            case "put":
                return i < 2 ? random.nextInt(4) : random.nextInt(10) == 0 ? random.nextInt() : random.nextInt(15);
            case "copy":
                return i % 2 == 0 ? random.nextInt(4) : random.nextInt(6) - 1;
            case "had":
            case "wish":
                return random.nextInt(4) == 0 ? random.nextInt(4003) : random.nextInt(200);
            case "ways":
                return random.nextInt(403);
            case "byJust":
                return i == 0 ? random.nextInt(403) : random.nextInt(23);
            case "rest":
                return i == 0 ? random.nextInt(63) : random.nextInt(40);
            case "play":
                return i == 0 ? random.nextInt(8) : random.nextInt(Integer.MAX_VALUE);
            case "undo":
                return 2 + random.nextInt(12);
            case "tree":
                return random.nextInt(i == 0 ? 11 : 19);
            case "say":
            case "may":
                return sayable();
            default:
                return random.nextInt(7);
        }
    }

    private int writeText() throws ReflectiveOperationException {
        StringBuilder text = new StringBuilder();
        String blanks = random.nextInt(3) == 0 ? " " : "";
        if (random.nextInt(2) == 0) {
            text.append('l').append(pick(0, 0, 0, 1, 2)).append(blanks);
        }
        for (int p = 0; p < 2 && random.nextInt(8) > 0; p++) {
            text.append("psabgc".charAt(random.nextInt(6))).append(blanks);
        }
        for (int k = random.nextInt(5); k > 0; k--) {
            text.append('n').append(2 + random.nextInt(random.nextBoolean() ? 12 : 59)).append(blanks);
        }
        while (random.nextInt(5) == 0) {
            text.insert(random.nextInt(text.length() + 1), "lnpsabgc 0123456789x".charAt(random.nextInt(20)));
        }
        int t = random.nextInt(4);
        int calls = one("text", new Object[] {t, Math.min(60, text.length())});
        for (int i = 0; i < text.length(); i++) {
            calls += one("put", new Object[] {t, i, (int) text.charAt(i)});
        }
        calls += one("fault", new Object[] {t});
        return calls + one("game", new Object[] {t});
    }

    /** Often behind a 1, as a GAME that is OVER is met too seldom else: all that PLAYERS tell and SAY. */
    private int askAll() throws ReflectiveOperationException {
        int calls = 0;
        if (random.nextBoolean()) {
            calls += one("say", new Object[] {1});
        }
        for (int p = 0; p < 2; p++) {
            for (int kind = 1; kind <= 5; kind++) {
                calls += one("mark", new Object[] {p, kind});
            }
            calls += one("says", new Object[] {p});
        }
        calls += one("turn", new Object[0]);
        return calls + one("undo", new Object[] {random.nextInt(3)});
    }

    /** The longest lists: 1 and all that follow, mostly up to 60, where most numbers make them. */
    private int fillFrom1() throws ReflectiveOperationException {
        int r = random.nextInt(6);
        int n = random.nextInt(3) == 0 ? random.nextInt(60) : 58 + random.nextInt(3);
        int calls = one("row", new Object[] {r, n});
        for (int i = 0; i < n; i++) {
            calls += one("lay", new Object[] {r, i, i + 1});
        }
        calls += one("list", new Object[] {r});
        return calls + one("makes", new Object[] {r, random.nextInt(6)});
    }

    /** GAPS of the GAME, or some that are nearly such ones. */
    private int fillRow() throws ReflectiveOperationException {
        int r = random.nextInt(6);
        int calls = one("gaps", new Object[] {r});
        if (random.nextBoolean()) {
            calls += one("row", new Object[] {r, 6});
            for (int i = 0; i < 6; i++) {
                calls += one("lay", new Object[] {r, i, pick(i + 1, i + 1, i + 1, 2 * i + 1, random.nextInt(62))});
            }
        }
        calls += one("list", new Object[] {r});
        return calls + one("makes", new Object[] {r, random.nextInt(6)});
    }
}

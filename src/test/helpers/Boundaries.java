import java.lang.annotation.ElementType;
import java.lang.annotation.Retention;
import java.lang.annotation.RetentionPolicy;
import java.lang.annotation.Target;
import java.lang.reflect.InvocationTargetException;
import java.lang.reflect.Method;
import java.util.ArrayList;
import java.util.Arrays;
import java.util.Comparator;
import java.util.LinkedHashMap;
import java.util.List;
import java.util.Map;
import java.util.function.Function;
import java.util.function.Supplier;
import java.util.function.ToIntFunction;

/** What the tests of the boundary cases share: how each is found and run, and how a refusal is looked at. */
abstract class Boundaries {
    /** Which sentence a test is of: one of a promise, or one of a section of Terms (0: what stands ahead of 1). */
    @Retention(RetentionPolicy.RUNTIME)
    @Target(ElementType.METHOD)
    @interface Of {
        int promise() default -1;

        int terms() default -1;

        String sentence();
    }

    static final int BAD = RoadsCrossed.BAD, NO = RoadsCrossed.NO, FULL = RoadsCrossed.FULL, NONE = RoadsCrossed.NONE;
    static final int NOTHING = RoadsCrossed.NOTHING, KIND = RoadsCrossed.KIND, INDEX = RoadsCrossed.INDEX, SIZE = RoadsCrossed.SIZE;
    static final int LEAST = Integer.MIN_VALUE, MOST = Integer.MAX_VALUE;
    static final int SHORTS = 0, FLOATS = 1;

    private static final Map<String, Function<RoadsCrossed, int[]>> LOOKS = looks();

    private static String test = "";
    private static int asked = 0;
    private static int wrong = 0;

    // ---- running

    /** Runs each test of a class that is of Terms alone. */
    static void run(Class<?> tests) {
        run(tests, 0, -1);
    }

    /** Runs each test of a class; each promise from one to another must have one. */
    static void run(Class<?> tests, int firstPromise, int lastPromise) {
        List<Method> methods = testsOf(tests);
        for (Method method : methods) {
            Of of = method.getAnnotation(Of.class);
            test = method.getName() + " (" + partOf(of) + ": \"" + of.sentence() + "\")";
            runOne(method);
        }
        test = "each test names its sentence";
        haveSentences(methods);
        for (int promise = firstPromise; promise <= lastPromise; promise++) {
            int wanted = promise;
            boolean has = methods.stream().anyMatch(m -> m.getAnnotation(Of.class).promise() == wanted);
            holds("promise " + promise + " has a test", has);
        }
        System.out.println(tests.getName() + ": " + methods.size() + " tests, " + asked + " looks, "
            + (wrong == 0 ? "all as promised" : wrong + " not as promised"));
        if (wrong != 0) {
            System.exit(1);
        }
    }

    private static List<Method> testsOf(Class<?> tests) {
        List<Method> methods = new ArrayList<>();
        for (Method method : tests.getDeclaredMethods()) {
            if (method.isAnnotationPresent(Of.class)) {
                methods.add(method);
            }
        }
        methods.sort(Comparator.comparing((Method m) -> m.getAnnotation(Of.class).promise()).thenComparing(Method::getName));
        return methods;
    }

    private static void runOne(Method method) {
        int before = asked;
        try {
            method.invoke(null);
        } catch (InvocationTargetException thrown) {
            holds("throws " + thrown.getCause(), false);
        } catch (IllegalAccessException hidden) {
            holds("can not be run", false);
        }
        holds("looks at something", asked > before);
    }

    private static String partOf(Of of) {
        return of.promise() >= 0 ? Document.promise(of.promise()) : Document.terms(of.terms());
    }

    /** That each sentence stands in the part of the document that its test names; the tests go on without it. */
    private static void haveSentences(List<Method> methods) {
        Map<String, String> parts = Document.parts();
        if (parts.isEmpty()) {
            System.out.println("no document to find the sentences in");
            return;
        }
        for (Method method : methods) {
            Of of = method.getAnnotation(Of.class);
            String part = parts.getOrDefault(partOf(of), "");
            holds(method.getName() + ": " + partOf(of) + " says \"" + of.sentence() + "\"", part.contains(of.sentence()));
        }
    }

    // ---- looking

    static void due(String what, int got, int want) {
        asked++;
        if (got != want) {
            wrong++;
            System.out.println(test + ": " + what + " answered " + got + ", due is " + want);
        }
    }

    static void holds(String what, boolean so) {
        asked++;
        if (!so) {
            wrong++;
            System.out.println(test + ": this does not hold: " + what);
        }
    }

    /** A call answers as it should, and changes nothing. */
    static void refused(String what, Supplier<RoadsCrossed> state, ToIntFunction<RoadsCrossed> call, int want) {
        leaves(what, state, call, want, state);
    }

    /** A call that is no refusal, and changes nothing either. */
    static void tellsOnly(String what, Supplier<RoadsCrossed> state, ToIntFunction<RoadsCrossed> call, int want) {
        leaves(what, state, call, want, state);
    }

    /** A call answers as it should, and leaves all as it is in another state. */
    static void leaves(String what, Supplier<RoadsCrossed> state, ToIntFunction<RoadsCrossed> call, int want, Supplier<RoadsCrossed> left) {
        for (Map.Entry<String, Function<RoadsCrossed, int[]>> look : LOOKS.entrySet()) {
            // Each look is at an object of its own: some looks use things up, and an object has 512 calls.
            RoadsCrossed x = state.get();
            due(what, call.applyAsInt(x), want);
            int[] got = look.getValue().apply(x);
            int[] wanted = look.getValue().apply(left.get());
            holds(what + " leaves " + look.getKey() + " as " + Arrays.toString(wanted) + ", not " + Arrays.toString(got), Arrays.equals(got, wanted));
        }
    }

    private static Map<String, Function<RoadsCrossed, int[]>> looks() {
        Map<String, Function<RoadsCrossed, int[]>> looks = new LinkedHashMap<>();
        looks.put("the land", Boundaries::land);
        looks.put("the image", Boundaries::image);
        looks.put("the slots", Boundaries::slots);
        looks.put("the sheets", Boundaries::sheets);
        looks.put("the tape", Boundaries::tape);
        looks.put("the numbers that wait", Boundaries::waiting);
        return looks;
    }

    private static int[] land(RoadsCrossed x) {
        Row row = new Row();
        for (int what = 0; what <= 5; what++) {
            row.add(x.count(what));
        }
        for (int post = 0; post < x.count(0); post++) {
            row.add(x.at(post));
            for (int what = 0; what <= 4; what++) {
                row.add(x.postTold(post, what));
            }
        }
        for (int road = 0; road < x.count(1); road++) {
            for (int what = 0; what <= 6; what++) {
                row.add(x.told(road, what));
            }
        }
        for (int text = 0; text < x.count(2); text++) {
            row.add(x.textTold(text, 0), x.textTold(text, 1));
        }
        row.add(x.why(0), x.why(1), x.why(2));
        return row.all();
    }

    private static int[] image(RoadsCrossed x) {
        Row row = new Row();
        row.add(x.back());
        for (int v : land(x)) {
            row.add(v);
        }
        return row.all();
    }

    private static int[] slots(RoadsCrossed x) {
        Row row = new Row();
        for (int slot = 0; slot <= 4; slot++) {
            for (int kind = 0; kind <= 5; kind++) {
                row.add(x.ask(slot, kind));
            }
            row.add(x.rest(slot, MOST), x.rest(slot, LEAST));
            for (int place = 0; place <= 24; place++) {
                row.add(x.item(slot, place));
            }
            row.add(x.lay(slot, 0, 0));
        }
        return row.all();
    }

    private static int[] sheets(RoadsCrossed x) {
        Row row = new Row();
        for (int sheet = 0; sheet <= 3; sheet++) {
            x.lay(0, 0, 0);
            row.add(x.lay(0, 2, sheet));
            for (int place = 0; place <= 24; place++) {
                row.add(x.item(0, place));
            }
            // A sheet without places shows its sort by where it can be copied to.
            for (int other = 0; other <= 3; other++) {
                row.add(x.copy(sheet, 0, other, 0, 0));
            }
            row.add(x.mark(sheet, 0, NONE));
        }
        return row.all();
    }

    /** The image has room for one more text, by which the tape's harm shows. */
    private static int[] tape(RoadsCrossed x) {
        Row row = new Row();
        row.add(x.count(4), x.back(), x.count(4), x.text(), x.count(2), x.textTold(x.count(2) - 1, 0), x.told(0, 5), x.told(1, 5));
        return row.all();
    }

    private static int[] waiting(RoadsCrossed x) {
        Row row = new Row();
        row.add(x.count(3), x.check(Math.max(1, x.count(3) / 2)), x.count(3));
        return row.all();
    }

    /** A row of ints that grows. */
    private static final class Row {
        private final List<Integer> values = new ArrayList<>();

        void add(int... more) {
            for (int v : more) {
                values.add(v);
            }
        }

        int[] all() {
            return values.stream().mapToInt(Integer::intValue).toArray();
        }
    }

    // ---- states

    static RoadsCrossed empty() {
        return new RoadsCrossed();
    }

    /** Posts at the corners of a square, in order round it: 0 (0,0), 1 (8,0), 2 (8,8), 3 (0,8). */
    static RoadsCrossed square() {
        RoadsCrossed x = new RoadsCrossed();
        x.post(0, 0);
        x.post(8, 0);
        x.post(8, 8);
        x.post(0, 8);
        return x;
    }

    /** A square with both diagonals: road 0 is 0-2 of weight 3, road 1 is 1-3 of weight 5. One swap (0, 1) and none crosses. */
    static RoadsCrossed crossedSquare() {
        RoadsCrossed x = square();
        x.road(0, 2, 3);
        x.road(0, 13, 5);
        return x;
    }

    /** So many posts, no three of them in a line. */
    static RoadsCrossed posts(int n) {
        RoadsCrossed x = new RoadsCrossed();
        for (int p = 0; p < n; p++) {
            x.post(p, p * p);
        }
        return x;
    }

    /** So many posts, and roads of weight 1 between them, each told by its ends. */
    static RoadsCrossed roads(int posts, int... ends) {
        RoadsCrossed x = posts(posts);
        for (int e : ends) {
            x.road(0, e, 1);
        }
        return x;
    }

    /**
     * Some of everything, but not all there is room for: 6 posts, 4 roads, 2 texts, an image (the crossed square),
     * a line that is turned round; sheets: 0 six shorts, 1 three floats (one of them NO NUMBER), 2 missing, 3 no
     * shorts; slots: 0 nothing, 1 road, 2 floats, 3 number, 4 shorts; the numbers that wait are right for 2 swaps.
     */
    static RoadsCrossed rich() {
        RoadsCrossed x = richWithoutWaiting();
        tellAll(x, 1, 0, -1, 0);
        return x;
    }

    static RoadsCrossed richWithoutWaiting() {
        return withSheetsSlotsAndTape(richLand());
    }

    /** The rich state's sheets, slots and tape come to a land whose road 1 is that of the crossed square. */
    static RoadsCrossed withSheetsSlotsAndTape(RoadsCrossed x) {
        row(x, 0, SHORTS, 5, 4, 3, 2, 1, 0);
        row(x, 1, FLOATS, 5, NONE, -99999);
        x.sheet(3, SHORTS, 0);
        x.lay(1, 1, 1);
        x.lay(2, 2, 1);
        x.lay(3, 3, -17);
        x.lay(4, 2, 0);
        put(x, "harm 7");
        return x;
    }

    private static RoadsCrossed richLand() {
        RoadsCrossed x = crossedSquare();
        x.keep();
        x.post(20, 30);
        x.post(99, 99);
        x.layer(1, 1);
        x.layer(2, 1);
        x.layer(3, 2);
        x.layer(5, 3);
        x.road(3, 45, 9);
        x.road(4, 14, 2);
        x.turns(0, 2);
        x.set(1, 1, 2);
        x.seed(77);
        say(x, "harm w + 3");
        say(x, "swap a < 3");
        row(x, 0, SHORTS, 5, 4, 3, 2, 1, 0);
        x.line(0);
        return x;
    }

    /**
     * All that there is room for: 8 posts, 18 roads (between 0, 1, 2 and all others), 14 texts, 96 bytes (a text),
     * 60 numbers that wait (right for 30 swaps), sheets 0, 2 of 24 shorts and 1, 3 of 24 floats, slots that all
     * hold something; and an image (the crossed square).
     */
    static RoadsCrossed full() {
        RoadsCrossed x = crossedSquare();
        x.keep();
        x.post(20, 30);
        x.post(30, 50);
        x.post(50, 20);
        x.post(99, 99);
        for (int a = 0; a <= 2; a++) {
            for (int b = a + 1; b <= 7; b++) {
                x.road((a + b) % 6, 10 * a + b, 1 + (a + b) % 9);
            }
        }
        feedText(x, "cross p - q ");
        x.text();
        for (int text = 1; text < 14; text++) {
            feedText(x, "swap a < 3  ");
            x.text();
        }
        fillSheetsAndSlots(x);
        tellAll(x, 1, 0);
        for (int i = 1; i < 30; i++) {
            tellAll(x, -1, 0);
        }
        fillTape(x, "harm 7");
        return x;
    }

    private static void fillSheetsAndSlots(RoadsCrossed x) {
        for (int sheet = 0; sheet <= 3; sheet++) {
            x.sheet(sheet, sheet % 2, 24);
            x.mark(sheet, 23, 5 + sheet);
        }
        x.mark(1, 0, NONE);
        x.lay(0, 1, 0);
        x.lay(1, 2, 0);
        x.lay(2, 3, 1234567);
        x.lay(3, 1, 17);
        x.lay(4, 2, 1);
    }

    // ---- what states and tests are built with

    /** Numbers right outside of a range, and those that are farthest away. */
    static int[] outside(int least, int most) {
        return new int[] {LEAST, least - 1, most + 1, MOST};
    }

    static void tellAll(RoadsCrossed x, int... values) {
        for (int v : values) {
            x.tell(v);
        }
    }

    static void row(RoadsCrossed x, int sheet, int sort, int... values) {
        x.sheet(sheet, sort, values.length);
        for (int i = 0; i < values.length; i++) {
            x.mark(sheet, i, values[i]);
        }
    }

    /** Twelve bytes of a row of characters, from one on; z behind its end, so that a trim too few shows. */
    private static int feedFrom(RoadsCrossed x, String bytes, int from) {
        int[] v = new int[3];
        for (int j = 0; j < 12; j++) {
            int b = from + j < bytes.length() ? bytes.charAt(from + j) : 'z';
            v[j / 4] |= b << 24 - j % 4 * 8;
        }
        return x.feed(v[0], v[1], v[2]);
    }

    static int feedText(RoadsCrossed x, String twelve) {
        return feedFrom(x, twelve, 0);
    }

    /** The tape becomes these bytes. */
    static void put(RoadsCrossed x, String bytes) {
        x.trim(0);
        for (int i = 0; i < bytes.length(); i += 12) {
            feedFrom(x, bytes, i);
        }
        x.trim(bytes.length());
    }

    static int say(RoadsCrossed x, String bytes) {
        put(x, bytes);
        return x.text();
    }

    /** The tape becomes these bytes and blanks, 96 in all. */
    static void fillTape(RoadsCrossed x, String bytes) {
        put(x, bytes + " ".repeat(96 - bytes.length()));
    }
}

import java.lang.reflect.InvocationTargetException;
import java.lang.reflect.Method;
import java.lang.reflect.Modifier;
import java.util.ArrayList;
import java.util.Arrays;
import java.util.Comparator;
import java.util.LinkedHashMap;
import java.util.List;
import java.util.Map;
import java.util.Set;
import java.util.TreeSet;
import java.util.function.Supplier;

/** What Terms say of all refusals alike: each test names its sentence. */
public final class BoundariesOfRefusals extends Boundaries {
    private static final Set<Integer> REFUSALS = Set.of(BAD, NO, FULL, NONE, NOTHING, KIND, INDEX, SIZE);
    /** Calls that are never refused. */
    private static final Set<String> NEVER = Set.of("bound", "seed", "keep");
    /** Calls that use something up, whatever they answer. */
    private static final Set<String> USE_UP = Set.of("text", "check");

    public static void main(String[] args) {
        run(BoundariesOfRefusals.class);
    }

    // ---- many calls alike

    private static List<Method> calls() {
        List<Method> calls = new ArrayList<>();
        for (Method method : RoadsCrossed.class.getDeclaredMethods()) {
            if (Modifier.isPublic(method.getModifiers())) {
                calls.add(method);
            }
        }
        calls.sort(Comparator.comparing(Method::getName));
        return calls;
    }

    private static int answer(Method call, RoadsCrossed x, Object... values) {
        try {
            return (int) call.invoke(x, values);
        } catch (InvocationTargetException | IllegalAccessException thrown) {
            throw new IllegalStateException(call.getName() + Arrays.toString(values), thrown);
        }
    }

    /** All rows of so many values, fewer values where there are more of them in a row. */
    private static List<Object[]> rowsOf(int many) {
        int[] values = many <= 2 ? new int[] {LEAST, -2, -1, 0, 1, 2, 3, 4, 5, 8, 18, 25, 31, MOST}
            : many == 3 ? new int[] {LEAST, -1, 0, 1, 3, MOST} : new int[] {-1, 0, 2, MOST};
        List<Object[]> rows = new ArrayList<>();
        collectRows(values, new Object[many], 0, rows);
        return rows;
    }

    private static void collectRows(int[] values, Object[] row, int place, List<Object[]> rows) {
        if (place == row.length) {
            rows.add(row.clone());
            return;
        }
        for (int v : values) {
            row[place] = v;
            collectRows(values, row, place + 1, rows);
        }
    }

    private static Map<String, Supplier<RoadsCrossed>> states() {
        Map<String, Supplier<RoadsCrossed>> states = new LinkedHashMap<>();
        states.put("a new object", () -> empty());
        states.put("some of everything", () -> rich());
        states.put("all there is room for", () -> full());
        return states;
    }

    // ---- Terms

    @Of(terms = 0, sentence = "A call that is refused answers one of BAD, NO, FULL, or a FINDING")
    static void eachCallThatCanBeRefusedIs() {
        Set<String> refused = new TreeSet<>();
        Set<String> due = new TreeSet<>();
        for (Method call : calls()) {
            if (!NEVER.contains(call.getName())) {
                due.add(call.getName());
            }
            for (Supplier<RoadsCrossed> state : states().values()) {
                for (Object[] row : rowsOf(call.getParameterCount())) {
                    int got = answer(call, state.get(), row);
                    if (REFUSALS.contains(got) || call.getName().equals("text") && got <= -100) {
                        refused.add(call.getName());
                    }
                }
            }
        }
        holds("refused are " + due + ", not " + refused, due.equals(refused));
    }

    @Of(terms = 0, sentence = "and changes nothing")
    static void noRefusedCallChangesAnything() {
        for (Method call : calls()) {
            if (USE_UP.contains(call.getName())) {
                continue;
            }
            for (Map.Entry<String, Supplier<RoadsCrossed>> state : states().entrySet()) {
                for (Object[] row : rowsOf(call.getParameterCount())) {
                    int got = answer(call, state.getValue().get(), row);
                    if (REFUSALS.contains(got)) {
                        refused(state.getKey() + ": " + call.getName() + Arrays.toString(row), state.getValue(), x -> answer(call, x, row), got);
                    }
                }
            }
        }
    }

    @Of(terms = 0, sentence = "(but the tape and the numbers that wait, where told)")
    static void onlyTextAndCheckUseSomethingUp() {
        leaves("text with a fault", () -> taped("harm"), x -> x.text(), -104, () -> taped(""));
        leaves("text that is one too many", () -> full(), x -> x.text(), FULL, () -> {
            RoadsCrossed x = full();
            x.trim(0);
            return x;
        });
        leaves("check(0)", () -> rich(), x -> x.check(0), BAD, () -> richWithoutWaiting());
        leaves("check(1) without an image", () -> {
            RoadsCrossed x = crossedSquare();
            tellAll(x, 1, 0);
            return x;
        }, x -> x.check(1), NO, () -> crossedSquare());
        refused("feed leaves the tape", () -> full(), x -> x.feed(0, 0, 0), FULL);
        refused("trim leaves the tape", () -> rich(), x -> x.trim(7), BAD);
        refused("tell leaves the numbers that wait", () -> full(), x -> x.tell(0), FULL);
        refused("back leaves the numbers that wait", () -> taped("swap 1"), x -> x.back(), NO);
    }

    /** A crossed square without an image, and bytes on the tape. */
    private static RoadsCrossed taped(String bytes) {
        RoadsCrossed x = crossedSquare();
        tellAll(x, 3, 4);
        put(x, bytes);
        return x;
    }

    @Of(terms = 0, sentence = "of several the one that stands first with it")
    static void ofSeveralRefusalsTheFirst() {
        refused("post: BAD, FULL", () -> full(), x -> x.post(100, 0), BAD);
        refused("post: NO, FULL", () -> full(), x -> x.post(0, 0), NO);
        refused("move: BAD, NO", () -> full(), x -> x.move(8, 0, 0), BAD);
        refused("road: BAD, NO, FULL", () -> full(), x -> x.road(6, 1, 1), BAD);
        refused("road: NO, FULL", () -> full(), x -> x.road(0, 1, 1), NO);
        refused("as: BAD, KIND", () -> rich(), x -> x.as(0, 6), BAD);
        refused("best: BAD, NONE", () -> empty(), x -> x.best(2), BAD);
        refused("line: NOTHING, SIZE", () -> rich(), x -> x.line(2), NOTHING);
        refused("line: SIZE, KIND, BAD", () -> rich(), x -> x.line(1), SIZE);
        refused("bestLine: BAD, NO", () -> empty(), x -> x.bestLine(-2), BAD);
        refused("bestLine: NO, NONE", () -> empty(), x -> x.bestLine(0), NO);
        refused("bestRow: BAD, NO", () -> full(), x -> x.bestRow(0, -2), BAD);
        refused("bestRow: NO, NONE", () -> full(), x -> x.bestRow(0, 8), NO);
        refused("deal: BAD, NO", () -> empty(), x -> x.deal(1, 21), BAD);
        refused("why: BAD, NONE", () -> empty(), x -> x.why(3), BAD);
        refused("sheet: BAD, SIZE", () -> rich(), x -> x.sheet(0, 2, -1), BAD);
        refused("mark: NOTHING, INDEX, KIND", () -> rich(), x -> x.mark(2, 24, NONE), NOTHING);
        refused("mark: INDEX, KIND", () -> rich(), x -> x.mark(0, 6, NONE), INDEX);
        refused("copy: NOTHING, KIND, INDEX", () -> rich(), x -> x.copy(2, 9, 1, 9, 9), NOTHING);
        refused("copy: KIND, INDEX", () -> rich(), x -> x.copy(0, 9, 1, 9, 9), KIND);
        refused("lay: BAD, NOTHING", () -> rich(), x -> x.lay(5, 2, 2), BAD);
        refused("ask: BAD, NOTHING", () -> rich(), x -> x.ask(0, 6), BAD);
        refused("item: KIND, INDEX", () -> rich(), x -> x.item(1, 99), KIND);
        refused("rest: KIND, NO", () -> rich(), x -> x.rest(1, 0), KIND);
        leaves("text: its FAULT, FULL", () -> full(), x -> x.trim(5) + x.text(), 5 - 105, () -> {
            RoadsCrossed x = full();
            x.trim(0);
            return x;
        });
        refused("check: BAD, NO", () -> crossedSquare(), x -> x.check(31), BAD);
    }

    @Of(terms = 0, sentence = "NONE: there is none.")
    static void noneWhereThereIsNone() {
        refused("a road that crosses", () -> square(), x -> x.straight(2), NONE);
        refused("a swap", () -> square(), x -> x.best(0), NONE);
        refused("its cost", () -> square(), x -> x.best(1), NONE);
        refused("a place of the best line", () -> square(), x -> x.bestLine(4), NONE);
        refused("a place of the best row", () -> square(), x -> x.bestRow(0, 4), NONE);
        refused("a text", () -> square(), x -> x.why(0), NONE);
    }
}

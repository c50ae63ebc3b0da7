import java.util.function.Supplier;

/** Boundary cases of promises 25 and 26, and of what Terms say of draws: each test names its sentence. */
public final class BoundariesOfLots extends Boundaries {
    public static void main(String[] args) {
        run(BoundariesOfLots.class, 25, 26);
    }

    /** z behind so many draws. */
    private static int behind(int z, int draws) {
        int v = z;
        for (int i = 0; i < draws; i++) {
            v = v * 1103515245 + 12345;
        }
        return v;
    }

    /** The rest by a number of what the last of so many draws gives. */
    private static int rest(int z, int draws, int by) {
        return (behind(z, draws) >>> 8) % by;
    }

    /** A state with some other z. */
    private static Supplier<RoadsCrossed> withZ(Supplier<RoadsCrossed> state, int z) {
        return () -> {
            RoadsCrossed x = state.get();
            x.seed(z);
            return x;
        };
    }

    // ---- Terms

    @Of(terms = 3, sentence = "z is told (1 at first). A draw: z becomes z * 1103515245 + 12345 (an int); it gives z >>> 8.")
    static void aDrawWraps() {
        for (int z : new int[] {1, 0, -1, LEAST, MOST, 1234567890}) {
            RoadsCrossed x = empty();
            due("z", x.count(5), 1);
            x.seed(z);
            due("deal(0, 1) from " + z, x.deal(0, 1), 1);
            due("x from " + z, x.postTold(0, 0), rest(z, 1, 100));
            due("y from " + z, x.postTold(0, 1), rest(z, 2, 100));
            due("z from " + z, x.count(5), behind(z, 2));
        }
        due("z behind one draw from 1, reckoned by hand", behind(1, 1), 1103527590);
    }

    @Of(terms = 3, sentence = "A POST that is drawn: x is the rest of a draw by 100, y that of one more; if it can be, it comes.")
    static void aPostThatIsDrawnWhereOneStands() {
        Supplier<RoadsCrossed> drawn = () -> drawnFrom5();
        due("a first time", drawn.get().count(0), 1);
        leaves("a second time", drawn, x -> x.deal(0, 1), 0, withZ(drawn, behind(5, 2)));
    }

    /** One post where z 5 draws it, and z 5 again. */
    private static RoadsCrossed drawnFrom5() {
        RoadsCrossed x = empty();
        x.seed(5);
        x.deal(0, 1);
        x.seed(5);
        return x;
    }

    @Of(terms = 3, sentence = "A ROAD that is drawn: the rest of a draw by how many POSTS there are, and that of one more, are its ends; if it can be, it comes, KIND 0, its WEIGHT 1 and the rest of one more draw by 9 (drawn just then).")
    static void theWeightIsDrawnOnlyForARoadThatComes() {
        for (int z = -50; z < 50; z++) {
            int one = rest(z, 1, 3);
            int other = rest(z, 2, 3);
            int ends = 10 * one + other;
            int start = z;
            if (one == other || one + other == 1) {
                leaves("from " + z + ": " + ends + " can not be", withZ(() -> roads(3, 1), z), x -> x.deal(1, 1), 0, withZ(() -> roads(3, 1), behind(z, 2)));
            } else {
                leaves("from " + z + ": " + ends + " comes", withZ(() -> roads(3, 1), z), x -> x.deal(1, 1), 1, () -> {
                    RoadsCrossed x = roads(3, 1);
                    x.road(0, ends, 1 + rest(start, 3, 9));
                    x.seed(behind(start, 3));
                    return x;
                });
            }
        }
    }

    // ---- promise 25

    @Of(promise = 25, sentence = "POSTS (what 0), ROADS (1) are drawn, n (1 .. 20) times: how many came. BAD;")
    static void dealRefusesAWhatThatIsNone() {
        for (int what : outside(0, 1)) {
            refused("deal(" + what + ", 1)", () -> rich(), x -> x.deal(what, 1), BAD);
        }
    }

    @Of(promise = 25, sentence = "POSTS (what 0), ROADS (1) are drawn, n (1 .. 20) times: how many came. BAD;")
    static void dealRefusesANumberOfTimesOutside() {
        for (int n : outside(1, 20)) {
            refused("deal(0, " + n + ")", () -> rich(), x -> x.deal(0, n), BAD);
            refused("deal(1, " + n + ")", () -> rich(), x -> x.deal(1, n), BAD);
        }
    }

    @Of(promise = 25, sentence = "NO: ROADS, without POSTS.")
    static void dealRefusesRoadsWithoutPosts() {
        refused("deal(1, 1)", () -> empty(), x -> x.deal(1, 1), NO);
        refused("deal(1, 20)", () -> empty(), x -> x.deal(1, 20), NO);
    }

    @Of(promise = 25, sentence = "BAD; NO: ROADS, without POSTS.")
    static void dealRefusesInThisOrder() {
        refused("deal(1, 0) without posts", () -> empty(), x -> x.deal(1, 0), BAD);
        refused("deal(1, 21) without posts", () -> empty(), x -> x.deal(1, 21), BAD);
        refused("deal(2, 1) without posts", () -> empty(), x -> x.deal(2, 1), BAD);
    }

    @Of(promise = 25, sentence = "n (1 .. 20) times: how many came")
    static void dealOfRoadsWithOnePostBringsNone() {
        leaves("once", () -> posts(1), x -> x.deal(1, 1), 0, withZ(() -> posts(1), behind(1, 2)));
        leaves("20 times", () -> posts(1), x -> x.deal(1, 20), 0, withZ(() -> posts(1), behind(1, 40)));
    }

    @Of(promise = 25, sentence = "n (1 .. 20) times: how many came")
    static void dealOfPostsUpToTheEighth() {
        RoadsCrossed x = empty();
        due("20 times", x.deal(0, 20), 8);
        due("posts", x.count(0), 8);
        due("all 20 are drawn", x.count(5), behind(1, 40));
        due("the last one's x", x.postTold(7, 0), rest(1, 15, 100));
        due("the last one's y", x.postTold(7, 1), rest(1, 16, 100));
    }

    @Of(promise = 25, sentence = "n (1 .. 20) times: how many came")
    static void dealWhenAllThereIsRoomForIsThere() {
        leaves("posts", () -> full(), x -> x.deal(0, 20), 0, withZ(() -> full(), behind(1, 40)));
        leaves("roads", () -> full(), x -> x.deal(1, 20), 0, withZ(() -> full(), behind(1, 40)));
    }

    @Of(promise = 25, sentence = "n (1 .. 20) times: how many came")
    static void dealOfRoadsUpToTheLastThereCanBe() {
        RoadsCrossed x = roads(2);
        int came = x.deal(1, 20);
        due("between two posts there is just one", came, 1);
        due("roads", x.count(1), 1);
        due("one draw more for its weight", x.count(5), behind(1, 41));
    }

    // ---- promise 26

    @Of(promise = 26, sentence = "z becomes v: what it was.")
    static void seedOfAnyNumber() {
        RoadsCrossed x = empty();
        int was = 1;
        for (int v : new int[] {0, -1, LEAST, MOST, BAD, NONE, 1, 1}) {
            due("seed(" + v + ")", x.seed(v), was);
            due("z", x.count(5), v);
            was = v;
        }
        tellsOnly("seed(77), as it is", () -> rich(), y -> y.seed(77), 77);
    }
}

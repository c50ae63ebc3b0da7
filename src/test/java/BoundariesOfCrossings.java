import java.util.Arrays;
import java.util.function.BiPredicate;

/** Boundary cases of promises 12 to 17, and of what Terms say of straight roads and swaps: each test names its sentence. */
public final class BoundariesOfCrossings extends Boundaries {
    public static void main(String[] args) {
        run(BoundariesOfCrossings.class, 12, 17);
    }

    /** Whether a road from (ax, ay) to (bx, by) and one from (cx, cy) to (dx, dy) cross. */
    private static void meet(int want, int... places) {
        RoadsCrossed x = empty();
        for (int i = 0; i < places.length; i += 2) {
            x.post(places[i], places[i + 1]);
        }
        x.road(0, 1, 1);
        x.road(0, 23, 1);
        String what = Arrays.toString(places);
        due("cross " + what, x.cross(0, 1), want);
        due("cross, the other way round " + what, x.cross(1, 0), want);
        due("straight(0) " + what, x.straight(0), want);
    }

    /** Road 0 (0-1) far away from roads 1 (2-3) and 2 (4-5), which cross. */
    private static RoadsCrossed oneApart() {
        RoadsCrossed x = empty();
        x.post(80, 80);
        x.post(90, 80);
        x.post(0, 0);
        x.post(8, 8);
        x.post(8, 0);
        x.post(0, 8);
        x.road(0, 1, 9);
        x.road(0, 23, 3);
        x.road(0, 45, 5);
        return x;
    }

    /** Two crossed squares, posts of which may be swapped within one square: two swaps are needed. */
    private static RoadsCrossed twoCrossedSquares() {
        RoadsCrossed x = crossedSquare();
        x.post(50, 80);
        x.post(58, 80);
        x.post(58, 88);
        x.post(50, 88);
        x.road(0, 46, 3);
        x.road(0, 57, 4);
        say(x, "swap b<4|a>3");
        return x;
    }

    // ---- Terms

    @Of(terms = 1, sentence = "have a place in common (ends, too)")
    static void straightRoadsThatTouchWithAnEnd() {
        meet(1, 0, 0, 10, 0, 5, 0, 5, 9);
        meet(0, 0, 0, 10, 0, 5, 1, 5, 9);
        meet(1, 0, 0, 9, 9, 3, 3, 9, 0);
        meet(0, 0, 0, 9, 9, 4, 3, 9, 0);
        meet(1, 99, 99, 99, 0, 0, 50, 99, 50);
        meet(0, 99, 99, 99, 0, 0, 50, 98, 50);
    }

    @Of(terms = 1, sentence = "have a place in common (ends, too)")
    static void straightRoadsInOneLine() {
        meet(1, 0, 0, 10, 0, 5, 0, 15, 0);
        meet(1, 0, 0, 10, 0, 3, 0, 4, 0);
        meet(0, 0, 0, 10, 0, 11, 0, 15, 0);
        meet(0, 5, 0, 5, 10, 5, 11, 5, 99);
        meet(1, 5, 0, 5, 10, 5, 9, 5, 99);
        meet(1, 0, 0, 6, 6, 9, 9, 3, 3);
        meet(0, 0, 0, 3, 3, 9, 9, 4, 4);
        meet(1, 0, 99, 99, 0, 50, 49, 49, 50);
    }

    @Of(terms = 1, sentence = "the straight lines from end to end have a place in common")
    static void straightRoadsFromCornerToCorner() {
        meet(1, 0, 0, 99, 99, 0, 99, 99, 0);
        meet(0, 0, 0, 99, 0, 0, 99, 99, 99);
        meet(0, 0, 0, 99, 98, 0, 1, 99, 99);
        meet(1, 0, 0, 99, 98, 0, 1, 98, 97);
        meet(0, 0, 0, 99, 98, 0, 1, 98, 98);
        meet(0, 0, 0, 10, 10, 6, 5, 10, 0);
    }

    @Of(terms = 1, sentence = "STRAIGHT: two ROADS without a POST in common cross, if")
    static void straightRoadsWithAPostInCommonNeverCross() {
        RoadsCrossed x = empty();
        x.post(0, 0);
        x.post(10, 0);
        x.post(5, 0);
        x.road(0, 1, 1);
        x.road(0, 12, 1);
        x.road(0, 2, 1);
        due("cross(0, 1), one upon the other", x.cross(0, 1), 0);
        due("cross(0, 2)", x.cross(0, 2), 0);
        due("cross(1, 2)", x.cross(1, 2), 0);
        due("straight(0)", x.straight(0), 0);
        due("straight(2)", x.straight(2), NONE);
    }

    @Of(terms = 3, sentence = "May be SWAPPED are two POSTS a, b (a the lesser), if swap gives what is not 0 (without a TEXT: yes).")
    static void anythingButZeroAllowsASwap() {
        due("without a text", crossedSquare().best(0), 1);
        due("0", bestBy("swap 0"), NONE);
        due("1", bestBy("swap 1"), 1);
        due("below 0", bestBy("swap a-b"), 1);
        due("a is never the greater", bestBy("swap a>b"), NONE);
        due("a is the lesser", bestBy("swap a<b"), 1);
        due("2 to the 32nd wraps to 0", bestBy("swap 4096*4096*256"), NONE);
        due("2 to the 31st is not 0", bestBy("swap 4096*4096*128"), 1);
        due("by 0 is 0", bestBy("swap 9/a"), 12);
    }

    private static int bestBy(String law) {
        RoadsCrossed x = crossedSquare();
        say(x, law);
        return x.best(0);
    }

    @Of(terms = 3, sentence = "the COST of all ROADS that cross STRAIGHT is least, if that is less than now; of several the first (by a, then b)")
    static void aSwapThatLeavesTheCostIsNone() {
        due("posts 0 and 2: as now", bestBy("swap a=0&b=2"), NONE);
        due("posts 1 and 3: as now", bestBy("swap a=1&b=3"), NONE);
        due("of several the first by a", bestBy("swap a>0"), 12);
        due("of several the first by b", bestBy("swap !(a=0&b=1)"), 3);
        due("the last", bestBy("swap a=2"), 23);
        RoadsCrossed x = crossedSquare();
        say(x, "cross 0");
        due("what costs 0 can not be less", x.best(0), NONE);
        due("they cross", x.straight(0), 1);
    }

    @Of(terms = 3, sentence = "BEST SWAP: of those that may be the one behind which the COST of all ROADS that cross STRAIGHT is least, if that is less than now; of several the first (by a, then b).")
    static void bestSwapIsTheFirstBestOfAllThatMayBe() {
        for (int z = 0; z < 40; z++) {
            RoadsCrossed x = empty();
            x.seed(z);
            x.deal(0, 4 + z % 5);
            x.deal(1, 20);
            bestOfAllSwaps(x, (a, b) -> true);
            say(x, "swap a+b-(a+b)/2*2");
            bestOfAllSwaps(x, (a, b) -> (a + b) % 2 != 0);
            say(x, "swap !a");
            bestOfAllSwaps(x, (a, b) -> a == 0);
            say(x, "cross 1");
            bestOfAllSwaps(x, (a, b) -> a == 0);
        }
    }

    private static void bestOfAllSwaps(RoadsCrossed x, BiPredicate<Integer, Integer> mayBe) {
        int now = x.straight(1);
        int least = 0;
        int best = NONE;
        for (int a = 0; a < x.count(0); a++) {
            for (int b = a + 1; b < x.count(0); b++) {
                int more = mayBe.test(a, b) ? x.would(a, b) : 0;
                if (more < least) {
                    least = more;
                    best = 10 * a + b;
                }
            }
        }
        due("the swap", x.best(0), best);
        due("the cost", x.best(1), best == NONE ? NONE : now + least);
    }

    @Of(terms = 3, sentence = "BOUND: how many crossings there are at least, however POSTS stand")
    static void boundIsNeverAboveWhatIsCrossed() {
        int[][] lands = {
            {5, 1, 2, 3, 4, 12, 13, 14, 23, 24, 34},
            {6, 3, 4, 5, 13, 14, 15, 23, 24, 25},
            {6, 1, 2, 3, 4, 5, 12, 13, 14, 15, 23, 24, 25, 34, 35, 45},
            {8, 4, 5, 6, 7, 14, 15, 16, 17, 24, 25, 26, 27, 34, 35, 36, 37}};
        int[] bounds = {1, 1, 3, 4};
        for (int land = 0; land < lands.length; land++) {
            RoadsCrossed x = roads(lands[land][0], Arrays.copyOfRange(lands[land], 1, lands[land].length));
            for (int turn = 0; turn < 20; turn++) {
                due("bound", x.bound(), bounds[land]);
                holds("so many are crossed", x.straight(0) >= bounds[land]);
                moveAll(x, turn);
            }
        }
    }

    /** Posts go to places of which no three are in a line (those of x times x by 97). */
    private static void moveAll(RoadsCrossed x, int turn) {
        for (int post = 0; post < x.count(0); post++) {
            int to = (turn * 31 + post * (2 * turn + 1) + 8) % 97;
            x.move(post, to, to * to % 97);
        }
    }

    @Of(terms = 3, sentence = "if no ring of ROADS is of odd many (POSTS can be parted in two sets so that each ROAD is from the one to the other): 4 more than ROADS less 2 times POSTS, if that is more.")
    static void boundWithoutAndWithARingOfOddMany() {
        int[] threeAndFour = {3, 4, 5, 6, 13, 14, 15, 16, 23, 24, 25, 26};
        due("3 and 4 posts, 12 roads", roads(7, threeAndFour).bound(), 2);
        due("one post more", roads(8, threeAndFour).bound(), 0);
        RoadsCrossed x = roads(7, threeAndFour);
        x.road(0, 1, 1);
        due("a ring of three", x.bound(), 0);
        x.drop(12);
        due("and it goes", x.bound(), 2);
        due("post 7 to one set: rings of four", roads(8, 4, 5, 6, 13, 14, 15, 16, 23, 24, 25, 26, 7, 17).bound(), 1);
        due("post 7 to both sets: rings of five", roads(8, 4, 5, 6, 13, 14, 15, 16, 23, 24, 25, 26, 7, 37).bound(), 0);
        RoadsCrossed y = roads(8, 4, 5, 6, 13, 14, 15, 16, 23, 24, 25, 26, 7, 17);
        moveAll(y, 3);
        y.turns(0, 5);
        due("places and kinds do not matter", y.bound(), 1);
        due("three posts and a ring of three", roads(3, 1, 2, 12).bound(), 0);
    }

    @Of(terms = 3, sentence = "6 more than ROADS less 3 times POSTS (0 at least; with fewer than 3 POSTS BOUND is 0, whatever follows)")
    static void boundOfFewerThan3Posts() {
        due("no posts", empty().bound(), 0);
        due("1 post", posts(1).bound(), 0);
        due("2 posts", posts(2).bound(), 0);
        due("2 posts and a road", roads(2, 1).bound(), 0);
        due("3 posts", posts(3).bound(), 0);
        due("3 posts and a road", roads(3, 1).bound(), 0);
    }

    // ---- promise 12

    @Of(promise = 12, sentence = "Whether two unlike ROADS cross STRAIGHT (1, 0). BAD.")
    static void crossRefusesRoadsThatAreNone() {
        for (int road : outside(0, 3)) {
            refused("cross(" + road + ", 0)", () -> rich(), x -> x.cross(road, 0), BAD);
            refused("cross(0, " + road + ")", () -> rich(), x -> x.cross(0, road), BAD);
            refused("cross(" + road + ", " + road + ")", () -> rich(), x -> x.cross(road, road), BAD);
        }
        refused("18 of 18", () -> full(), x -> x.cross(17, 18), BAD);
        refused("without roads", () -> empty(), x -> x.cross(0, 1), BAD);
    }

    @Of(promise = 12, sentence = "two unlike ROADS")
    static void crossRefusesOneRoadTwice() {
        for (int road = 0; road <= 3; road++) {
            int r = road;
            refused("cross(" + r + ", " + r + ")", () -> rich(), x -> x.cross(r, r), BAD);
        }
        refused("cross(17, 17)", () -> full(), x -> x.cross(17, 17), BAD);
    }

    @Of(promise = 12, sentence = "Whether two unlike ROADS cross STRAIGHT (1, 0).")
    static void crossOfTheFirstAndTheLastOf18() {
        tellsOnly("cross(0, 17)", () -> full(), x -> x.cross(0, 17), 0);
        tellsOnly("cross(0, 1)", () -> full(), x -> x.cross(0, 1), 1);
    }

    // ---- promise 13

    @Of(promise = 13, sentence = "BAD.")
    static void straightRefusesAWhatThatIsNone() {
        for (int what : outside(0, 2)) {
            refused("straight(" + what + ")", () -> rich(), x -> x.straight(what), BAD);
            refused("straight(" + what + ") without roads", () -> empty(), x -> x.straight(what), BAD);
        }
    }

    @Of(promise = 13, sentence = "NONE: none cross")
    static void straightTellsThatNoneCross() {
        refused("without roads", () -> square(), x -> x.straight(2), NONE);
        refused("one road", () -> roads(2, 1), x -> x.straight(2), NONE);
        refused("side by side", () -> {
            RoadsCrossed x = crossedSquare();
            x.swaps(1);
            return x;
        }, x -> x.straight(2), NONE);
        tellsOnly("how many pairs", () -> square(), x -> x.straight(0), 0);
        tellsOnly("the cost", () -> square(), x -> x.straight(1), 0);
    }

    @Of(promise = 13, sentence = "(of all ROADS, those that cross none, too; of several the least; NONE: none cross)")
    static void straightTellsTheLeastOfSeveral() {
        tellsOnly("of the two that cross", () -> oneApart(), x -> x.straight(2), 1);
        RoadsCrossed x = oneApart();
        say(x, "cross p-q");
        due("3 less 5 is 0: all of them have 0", x.straight(1), 0);
        due("then the least is one that crosses none", x.straight(2), 0);
        due("there is a pair", x.straight(0), 1);
        x.turns(1, 5);
        x.turns(2, 5);
        say(x, "cross p+q");
        due("bridges cost 0 too", x.straight(2), 0);
    }

    @Of(promise = 13, sentence = "Of all ROADS that cross STRAIGHT: what 0 how many pairs, 1 COST")
    static void straightOfTheMostCost() {
        RoadsCrossed x = posts(8);
        x.deal(1, 20);
        x.deal(1, 20);
        x.deal(1, 20);
        x.deal(1, 20);
        due("roads", x.count(1), 18);
        say(x, "cross 9999");
        int pairs = x.straight(0);
        holds("some of the 18 cross", pairs > 20);
        due("999 for each pair", x.straight(1), 999 * pairs);
    }

    @Of(promise = 13, sentence = "2 the ROAD with the most COST of its own")
    static void straightOf18Roads() {
        RoadsCrossed x = posts(8);
        for (int ends : new int[] {4, 15, 26, 37, 2, 13, 24, 35, 46, 57, 6, 17, 3, 14, 25, 36, 47, 5}) {
            x.road(0, ends, 1);
        }
        due("roads", x.count(1), 18);
        int dearest = -1;
        int most = 0;
        for (int road = 0; road < 18; road++) {
            int crossed = 0;
            for (int other = 0; other < 18; other++) {
                crossed += other != road ? x.cross(road, other) : 0;
            }
            if (crossed > most) {
                most = crossed;
                dearest = road;
            }
        }
        due("straight(2)", x.straight(2), dearest);
    }

    @Of(promise = 13, sentence = "2 the ROAD with the most COST of its own")
    static void straightOfARoadThatIsGoneDoesNotCount() {
        RoadsCrossed x = empty();
        int[][] places = {{0, 5}, {10, 5}, {5, 0}, {5, 20}, {0, 15}, {10, 15}};
        for (int[] place : places) {
            x.post(place[0], place[1]);
        }
        x.road(0, 1, 3);
        x.road(0, 23, 1);
        x.road(0, 45, 1);
        due("road 1 crosses both others", x.straight(2), 1);
        x.drop(2);
        due("roads 0 and 1 cross one another", x.straight(2), 0);
        x.road(0, 45, 9);
        due("road 1 again", x.straight(2), 1);
        x.drop(0);
        due("the two that are left", x.straight(2), 0);
        due("cost", x.straight(1), 10);
    }

    // ---- promise 14

    @Of(promise = 14, sentence = "BOUND.")
    static void boundWhereItBecomes1() {
        due("5 posts, 9 roads", roads(5, 1, 2, 3, 4, 12, 13, 14, 23, 24).bound(), 0);
        due("5 posts, 10 roads", roads(5, 1, 2, 3, 4, 12, 13, 14, 23, 24, 34).bound(), 1);
        due("3 and 3 posts, 8 roads", roads(6, 3, 4, 5, 13, 14, 15, 23, 24).bound(), 0);
        due("3 and 3 posts, 9 roads", roads(6, 3, 4, 5, 13, 14, 15, 23, 24, 25).bound(), 1);
        due("3 and 3 posts, 9 roads, and an odd ring", roads(6, 3, 4, 5, 13, 14, 15, 23, 24, 25, 1).bound(), 0);
    }

    @Of(promise = 14, sentence = "BOUND.")
    static void boundOfTheMost() {
        int[] fourAndFour = {4, 5, 6, 7, 14, 15, 16, 17, 24, 25, 26, 27, 34, 35, 36, 37};
        due("4 and 4 posts, 16 roads", roads(8, fourAndFour).bound(), 4);
        due("8 posts, 18 roads", full().bound(), 0);
        due("6 posts, 15 roads", roads(6, 1, 2, 3, 4, 5, 12, 13, 14, 15, 23, 24, 25, 34, 35, 45).bound(), 3);
        due("8 posts, no roads: below 0", posts(8).bound(), 0);
    }

    @Of(promise = 14, sentence = "BOUND.")
    static void boundChangesNothingAndHoldsHoweverPostsStand() {
        tellsOnly("bound", () -> full(), x -> x.bound(), 0);
        RoadsCrossed x = roads(5, 1, 2, 3, 4, 12, 13, 14, 23, 24, 34);
        x.swaps(30);
        x.move(0, 99, 0);
        due("elsewhere", x.bound(), 1);
    }

    // ---- promise 15

    @Of(promise = 15, sentence = "BAD: also one POST twice.")
    static void wouldRefusesPostsThatAreNone() {
        for (int post : outside(0, 5)) {
            refused("would(" + post + ", 0)", () -> rich(), x -> x.would(post, 0), BAD);
            refused("would(0, " + post + ")", () -> rich(), x -> x.would(0, post), BAD);
            refused("would(" + post + ", " + post + ")", () -> rich(), x -> x.would(post, post), BAD);
        }
        refused("without posts", () -> empty(), x -> x.would(0, 1), BAD);
        refused("8 of 8", () -> full(), x -> x.would(7, 8), BAD);
    }

    @Of(promise = 15, sentence = "BAD: also one POST twice.")
    static void wouldRefusesOnePostTwice() {
        for (int post = 0; post <= 5; post++) {
            int p = post;
            refused("would(" + p + ", " + p + ")", () -> rich(), x -> x.would(p, p), BAD);
        }
    }

    @Of(promise = 15, sentence = "(below 0: less); nothing changes")
    static void wouldIsBelowAboveAndJust0() {
        tellsOnly("less", () -> crossedSquare(), x -> x.would(0, 1), -8);
        tellsOnly("less, the other way round", () -> crossedSquare(), x -> x.would(1, 0), -8);
        tellsOnly("the same", () -> crossedSquare(), x -> x.would(3, 1), 0);
        tellsOnly("more", () -> {
            RoadsCrossed x = crossedSquare();
            x.swaps(1);
            return x;
        }, x -> x.would(0, 1), 8);
        tellsOnly("without roads", () -> square(), x -> x.would(0, 3), 0);
    }

    @Of(promise = 15, sentence = "nothing changes")
    static void wouldOfAllThereIsRoomForChangesNothing() {
        int now = full().straight(1);
        RoadsCrossed swapped = full();
        swapped.move(0, 1, 99);
        swapped.move(7, 0, 0);
        swapped.move(0, 99, 99);
        tellsOnly("would(0, 7)", () -> full(), x -> x.would(0, 7), swapped.straight(1) - now);
    }

    @Of(promise = 15, sentence = "By how much the COST of all ROADS that cross STRAIGHT would be more behind a SWAP")
    static void wouldTellsOfSwapsThatMayNotBe() {
        RoadsCrossed x = crossedSquare();
        say(x, "swap 0");
        due("no two may be swapped", x.best(0), NONE);
        due("would", x.would(0, 1), -8);
    }

    // ---- promise 16

    @Of(promise = 16, sentence = "BAD; NONE: there is none.")
    static void bestRefusesAWhatThatIsNone() {
        for (int what : outside(0, 1)) {
            refused("best(" + what + ")", () -> crossedSquare(), x -> x.best(what), BAD);
            refused("best(" + what + "), BAD ahead of NONE", () -> empty(), x -> x.best(what), BAD);
        }
    }

    @Of(promise = 16, sentence = "NONE: there is none.")
    static void bestTellsThatThereIsNone() {
        for (int what = 0; what <= 1; what++) {
            int w = what;
            refused("without posts", () -> empty(), x -> x.best(w), NONE);
            refused("one post", () -> posts(1), x -> x.best(w), NONE);
            refused("without roads", () -> posts(8), x -> x.best(w), NONE);
            refused("none cross", () -> roads(8, 1, 23, 45, 67), x -> x.best(w), NONE);
        }
    }

    @Of(promise = 16, sentence = "BEST SWAP: what 0 10 times a, and b, 1 the COST behind it.")
    static void bestOfTheFirstAndTheLastPair() {
        tellsOnly("10 times 0, and 1", () -> crossedSquare(), x -> x.best(0), 1);
        tellsOnly("a cost of 0", () -> crossedSquare(), x -> x.best(1), 0);
        RoadsCrossed x = twoCrossedSquares();
        say(x, "swap a=6");
        due("10 times 6, and 7", x.best(0), 67);
        due("the other square's cost", x.best(1), 8);
    }

    // ---- promise 17

    @Of(promise = 17, sentence = "Up to n (1 .. 30) BEST SWAPS, one behind the other: how many were done. BAD.")
    static void swapsRefusesANumberOutside() {
        for (int n : outside(1, 30)) {
            refused("swaps(" + n + ")", () -> crossedSquare(), x -> x.swaps(n), BAD);
            refused("swaps(" + n + ")", () -> rich(), x -> x.swaps(n), BAD);
            refused("swaps(" + n + ") without posts", () -> empty(), x -> x.swaps(n), BAD);
        }
    }

    @Of(promise = 17, sentence = "Up to n (1 .. 30) BEST SWAPS, one behind the other: how many were done.")
    static void swapsOfTheLeastAndTheMost() {
        RoadsCrossed x = twoCrossedSquares();
        due("cost", x.straight(1), 15);
        due("swaps(1)", x.swaps(1), 1);
        due("the square that costs less is left", x.straight(1), 7);
        due("swaps(30)", x.swaps(30), 1);
        due("none is left", x.straight(1), 0);
        due("swaps(30) again", x.swaps(30), 0);
        due("swaps(2) at once", twoCrossedSquares().swaps(2), 2);
        due("swaps(30) at once", twoCrossedSquares().swaps(30), 2);
    }

    @Of(promise = 17, sentence = "Up to n (1 .. 30) BEST SWAPS, one behind the other: how many were done.")
    static void swapsOfNoneChangeNothing() {
        tellsOnly("without posts", () -> empty(), x -> x.swaps(1), 0);
        tellsOnly("without roads", () -> posts(8), x -> x.swaps(30), 0);
        tellsOnly("none cross", () -> roads(8, 1, 23, 45, 67), x -> x.swaps(30), 0);
    }

    @Of(terms = 3, sentence = "A SWAP of two POSTS: they change places x, y.")
    static void aSwapChangesPlacesAndNothingElse() {
        leaves("swaps(1)", () -> {
            RoadsCrossed x = crossedSquare();
            x.layer(0, 3);
            return x;
        }, x -> x.swaps(1), 1, () -> {
            RoadsCrossed x = crossedSquare();
            x.layer(0, 3);
            x.move(0, 50, 50);
            x.move(1, 0, 0);
            x.move(0, 8, 0);
            return x;
        });
    }
}

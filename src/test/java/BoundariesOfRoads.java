/** Boundary cases of promises 6 to 11, and of what Terms say of roads: each test names its sentence. */
public final class BoundariesOfRoads extends Boundaries {
    public static void main(String[] args) {
        run(BoundariesOfRoads.class, 6, 11);
    }

    // ---- Terms

    @Of(terms = 1, sentence = "ROADS, 18 at most, numbered from 0")
    static void roadsAreNumberedFrom0UpTo17() {
        RoadsCrossed x = posts(8);
        int road = 0;
        for (int a = 0; a <= 2; a++) {
            for (int b = a + 1; b <= 7; b++) {
                due("road " + road, x.road(0, 10 * a + b, 1), road);
                road++;
            }
        }
        due("how many", road, 18);
        due("a nineteenth", x.road(0, 67, 1), FULL);
        due("count(1)", x.count(1), 18);
    }

    @Of(terms = 1, sentence = "each between two unlike POSTS (no two between the same ones)")
    static void noTwoRoadsBetweenTheSamePosts() {
        RoadsCrossed x = posts(8);
        due("road 7-0", x.road(0, 70, 1), 0);
        due("road 0-7", x.road(0, 7, 1), NO);
        due("road 7-7", x.road(0, 77, 1), BAD);
        due("road 7-1", x.road(0, 71, 1), 1);
    }

    @Of(terms = 1, sentence = "of a WEIGHT 1 .. 9, on a PAGE 0 .. 3 (0 at first)")
    static void aNewRoadIsOnPage0HoweverItComes() {
        RoadsCrossed x = crossedSquare();
        x.set(1, 1, 3);
        due("drop", x.drop(1), 1);
        due("road", x.road(0, 13, 9), 1);
        due("its page", x.told(1, 4), 0);
        due("its weight", x.told(1, 3), 9);
        x.keep();
        x.set(x.road(0, 1, 1), 1, 2);
        x.back();
        due("road", x.road(0, 12, 1), 2);
        due("its page", x.told(2, 4), 0);
        due("its weight", x.told(2, 3), 1);
    }

    @Of(terms = 1, sentence = "and of a KIND: 0 ROAD; 1 PAVED, 2 TRACK, 5 BRIDGE, under ROAD; 3 TOLL, under PAVED; 4 MUD, under TRACK (all are ROADS).")
    static void kindsGoFrom0To5AndAllAreRoads() {
        RoadsCrossed x = posts(8);
        int[] above = {0, 0, 0, 1, 2, 0};
        for (int kind = 0; kind <= 5; kind++) {
            due("road of kind " + kind, x.road(kind, kind + 1, 9), kind);
            due("its kind", x.told(kind, 0), kind);
            due("as a ROAD", x.as(kind, 0), 9);
            due("as what it is under", x.as(kind, above[kind]), 9);
            due("as what it is", x.as(kind, kind), 9);
        }
        due("as PAVED, what is under TRACK", x.as(4, 1), KIND);
        due("as TRACK, what is under PAVED", x.as(3, 2), KIND);
        due("no kind 6", x.road(6, 7, 1), BAD);
        due("no kind -1", x.road(-1, 7, 1), BAD);
        due("six roads", x.count(1), 6);
    }

    @Of(terms = 1, sentence = "HARM: ROAD: what harm gives, held within 0 .. 99 (without a TEXT: WEIGHT).")
    static void harmIsHeldWithin0And99() {
        RoadsCrossed x = crossedSquare();
        due("without a text", x.told(0, 5), 3);
        String[] laws = {"99", "100", "9999", "0", "0-1", "0-9999", "9999*9999*30", "9999*9999*22", "1"};
        // 9999 * 9999 * 30 wraps to below 0, 9999 * 9999 * 22 to below 0 too (2199560022 - 2^32).
        int[] harms = {99, 99, 99, 0, 0, 0, 0, 0, 1};
        for (int i = 0; i < laws.length; i++) {
            say(x, "harm " + laws[i]);
            due("harm by " + laws[i], x.told(0, 5), harms[i]);
        }
    }

    @Of(terms = 1, sentence = "PAVED: as ROAD, and 2. TOLL: twice as PAVED. TRACK: half (rounded up) of as ROAD. MUD: as TRACK, and WEIGHT. BRIDGE: 0.")
    static void harmOfKindsAtTheLeastAndTheMost() {
        harmsOf("harm 99", new int[] {99, 101, 50, 202, 53, 0});
        harmsOf("harm 98", new int[] {98, 100, 49, 200, 52, 0});
        harmsOf("harm 0-5", new int[] {0, 2, 0, 4, 3, 0});
        harmsOf("harm 1", new int[] {1, 3, 1, 6, 4, 0});
        harmsOf("harm 9999", new int[] {99, 101, 50, 202, 53, 0});
    }

    private static void harmsOf(String law, int[] harms) {
        RoadsCrossed x = crossedSquare();
        say(x, law);
        for (int kind = 0; kind <= 5; kind++) {
            x.turns(0, kind);
            due(law + ", kind " + kind, x.told(0, 5), harms[kind]);
        }
    }

    @Of(terms = 1, sentence = "WORTH: ROAD: 10 less WEIGHT. PAVED: as ROAD, and 5. TOLL: as PAVED, less WEIGHT. TRACK: half (cut) of as ROAD. BRIDGE: 20. (A KIND that is not named does as the one above it.)")
    static void worthOfKindsAtTheLeastAndTheMostWeight() {
        RoadsCrossed x = crossedSquare();
        int[] lightest = {9, 14, 4, 13, 4, 20};
        int[] heaviest = {1, 6, 0, -3, 0, 20};
        for (int kind = 0; kind <= 5; kind++) {
            x.turns(0, kind);
            x.set(0, 0, 1);
            due("weight 1, kind " + kind, x.told(0, 6), lightest[kind]);
            x.set(0, 0, 9);
            due("weight 9, kind " + kind, x.told(0, 6), heaviest[kind]);
        }
    }

    @Of(terms = 1, sentence = "COST of two ROADS that cross: what cross gives by their HARMS (p of the lesser number, q of the other one), held within 0 .. 999 (without a TEXT: p and q).")
    static void costIsHeldWithin0And999() {
        RoadsCrossed x = crossedSquare();
        due("without a text", x.straight(1), 8);
        String[] laws = {"999", "1000", "9999", "0", "0-1", "p-q", "q-p", "p*100+q", "q*100+p", "9999*9999*30"};
        int[] costs = {999, 999, 999, 0, 0, 0, 2, 305, 503, 0};
        for (int i = 0; i < laws.length; i++) {
            say(x, "cross " + laws[i]);
            due("cost by " + laws[i], x.straight(1), costs[i]);
        }
    }

    @Of(terms = 1, sentence = "(without a TEXT: p and q)")
    static void costOfTheMostHarmWithoutAText() {
        RoadsCrossed x = crossedSquare();
        x.turns(0, 3);
        x.turns(1, 3);
        say(x, "harm 99");
        due("two of 202", x.straight(1), 404);
        x.turns(0, 5);
        x.turns(1, 5);
        due("two of 0", x.straight(1), 0);
        due("they cross nonetheless", x.straight(0), 1);
    }

    @Of(terms = 1, sentence = "(p of the lesser number, q of the other one)")
    static void pAndQChangeWhenANumberBecomesLess() {
        RoadsCrossed x = crossedSquare();
        say(x, "cross p*100+q");
        due("p 3, q 5", x.straight(1), 305);
        x.drop(0);
        x.road(0, 2, 3);
        due("p 5, q 3", x.straight(1), 503);
    }

    // ---- promise 6

    @Of(promise = 6, sentence = "BAD: kind, ends (also one twice), weight")
    static void roadRefusesAKindThatIsNone() {
        for (int kind : outside(0, 5)) {
            refused("road(" + kind + ", 3, 1)", () -> rich(), x -> x.road(kind, 3, 1), BAD);
        }
    }

    @Of(promise = 6, sentence = "BAD: kind, ends (also one twice), weight")
    static void roadRefusesAWeightOutside() {
        for (int weight : outside(1, 9)) {
            refused("road(0, 3, " + weight + ")", () -> rich(), x -> x.road(0, 3, weight), BAD);
        }
    }

    @Of(promise = 6, sentence = "BAD: kind, ends (also one twice), weight")
    static void roadRefusesEndsThatAreNone() {
        for (int ends : new int[] {LEAST, -77, -12, -10, -1, 6, 9, 16, 56, 60, 65, 80, 99, 100, 101, 110, 1000, MOST}) {
            refused("road(0, " + ends + ", 1)", () -> rich(), x -> x.road(0, ends, 1), BAD);
        }
        for (int ends : new int[] {8, 78, 80, 87, 9, 90}) {
            refused("road(0, " + ends + ", 1) of 8 posts", () -> full(), x -> x.road(0, ends, 1), BAD);
        }
        refused("without posts", () -> empty(), x -> x.road(0, 1, 1), BAD);
    }

    @Of(promise = 6, sentence = "BAD: kind, ends (also one twice), weight")
    static void roadRefusesOnePostTwice() {
        for (int post = 0; post <= 5; post++) {
            int ends = 11 * post;
            refused("road(0, " + ends + ", 1)", () -> rich(), x -> x.road(0, ends, 1), BAD);
        }
        refused("the only post there is", () -> posts(1), x -> x.road(0, 0, 1), BAD);
    }

    @Of(promise = 6, sentence = "NO: there is one between them")
    static void roadRefusesASecondBetweenTwoPosts() {
        for (int ends : new int[] {2, 20, 13, 31, 45, 54}) {
            refused("road(5, " + ends + ", 9)", () -> rich(), x -> x.road(5, ends, 9), NO);
        }
    }

    @Of(promise = 6, sentence = "NO: there is one between them")
    static void roadComesAgainBehindADrop() {
        RoadsCrossed x = crossedSquare();
        x.drop(0);
        due("road(0, 20, 4)", x.road(0, 20, 4), 1);
        due("its lesser post", x.told(1, 1), 0);
        due("its greater post", x.told(1, 2), 2);
    }

    @Of(promise = 6, sentence = "FULL.")
    static void roadRefusesANineteenth() {
        refused("road(0, 34, 1)", () -> full(), x -> x.road(0, 34, 1), FULL);
        refused("road(5, 76, 9)", () -> full(), x -> x.road(5, 76, 9), FULL);
    }

    @Of(promise = 6, sentence = "FULL.")
    static void roadComesAgainBehindADropOf18() {
        RoadsCrossed x = full();
        due("drop", x.drop(0), 17);
        due("road", x.road(0, 34, 1), 17);
        due("one more", x.road(0, 35, 1), FULL);
    }

    @Of(promise = 6, sentence = "BAD: kind, ends (also one twice), weight; NO: there is one between them; FULL.")
    static void roadRefusesInThisOrder() {
        refused("kind ahead of NO", () -> rich(), x -> x.road(6, 2, 1), BAD);
        refused("weight ahead of NO", () -> rich(), x -> x.road(0, 2, 0), BAD);
        refused("kind ahead of FULL", () -> full(), x -> x.road(-1, 34, 1), BAD);
        refused("ends ahead of FULL", () -> full(), x -> x.road(0, 38, 1), BAD);
        refused("one twice ahead of FULL", () -> full(), x -> x.road(0, 33, 1), BAD);
        refused("weight ahead of FULL", () -> full(), x -> x.road(0, 34, 10), BAD);
        refused("NO ahead of FULL", () -> full(), x -> x.road(0, 72, 1), NO);
    }

    @Of(promise = 6, sentence = "One more ROAD (ends: 10 times the one POST, and the other): its number.")
    static void roadOfTheLeastAndTheMost() {
        RoadsCrossed x = posts(8);
        due("road(0, 1, 1)", x.road(0, 1, 1), 0);
        due("road(5, 76, 9)", x.road(5, 76, 9), 1);
        due("its kind", x.told(1, 0), 5);
        due("its lesser post", x.told(1, 1), 6);
        due("its greater post", x.told(1, 2), 7);
        due("its weight", x.told(1, 3), 9);
    }

    // ---- promise 7

    @Of(promise = 7, sentence = "BAD.")
    static void toldRefusesARoadThatIsNone() {
        for (int road : outside(0, 3)) {
            refused("told(" + road + ", 0)", () -> rich(), x -> x.told(road, 0), BAD);
        }
        refused("road 18 of 18", () -> full(), x -> x.told(18, 6), BAD);
        refused("road 0 of none", () -> posts(8), x -> x.told(0, 0), BAD);
    }

    @Of(promise = 7, sentence = "BAD.")
    static void toldRefusesAWhatThatIsNone() {
        for (int what : outside(0, 6)) {
            refused("told(0, " + what + ")", () -> rich(), x -> x.told(0, what), BAD);
        }
    }

    @Of(promise = 7, sentence = "Of a ROAD: what 0 KIND, 1 the lesser POST, 2 the greater POST, 3 WEIGHT, 4 PAGE, 5 HARM, 6 WORTH.")
    static void toldTellsTheLeastAndTheMost() {
        int[] least = {0, 0, 1, 1, 0, 1, 9};
        int[] most = {5, 6, 7, 9, 3, 0, 20};
        int[] dearest = {3, 6, 7, 9, 3, 202, -3};
        for (int what = 0; what <= 6; what++) {
            int w = what;
            tellsOnly("the least: told(0, " + w + ")", () -> leastAndMost(5), x -> x.told(0, w), least[w]);
            tellsOnly("the most: told(1, " + w + ")", () -> leastAndMost(5), x -> x.told(1, w), most[w]);
            RoadsCrossed x = leastAndMost(3);
            say(x, "harm 9999");
            due("the most harm: told(1, " + w + ")", x.told(1, w), dearest[w]);
        }
    }

    /** Road 0 is 0-1, told as 10, of weight 1; road 1 is 6-7, told as 76, of some kind, weight 9, on page 3. */
    private static RoadsCrossed leastAndMost(int kind) {
        RoadsCrossed x = posts(8);
        x.road(0, 10, 1);
        x.road(kind, 76, 9);
        x.set(1, 1, 3);
        return x;
    }

    // ---- promise 8

    @Of(promise = 8, sentence = "A ROAD as one of a KIND: WEIGHT.")
    static void asTellsTheLeastAndTheMostWeight() {
        tellsOnly("weight 1", () -> leastAndMost(3), x -> x.as(0, 0), 1);
        for (int kind : new int[] {0, 1, 3}) {
            tellsOnly("a TOLL of weight 9 as " + kind, () -> leastAndMost(3), x -> x.as(1, kind), 9);
        }
        RoadsCrossed x = leastAndMost(3);
        say(x, "harm 50");
        due("whatever its harm is", x.as(1, 3), 9);
        x.set(1, 0, 4);
        due("as it is now", x.as(1, 3), 4);
    }

    @Of(promise = 8, sentence = "KIND: it is not of that KIND, nor of one under it.")
    static void asTellsOfEachKindWhatItIsUnder() {
        boolean[][] isUnder = {
            {true, false, false, false, false, false},
            {true, true, false, false, false, false},
            {true, false, true, false, false, false},
            {true, true, false, true, false, false},
            {true, false, true, false, true, false},
            {true, false, false, false, false, true}};
        for (int is = 0; is <= 5; is++) {
            RoadsCrossed x = rich();
            x.turns(3, is);
            for (int kind = 0; kind <= 5; kind++) {
                due("one of " + is + " as " + kind, x.as(3, kind), isUnder[is][kind] ? 2 : KIND);
            }
        }
        refused("TRACK as MUD", () -> rich(), x -> x.as(0, 4), KIND);
    }

    @Of(promise = 8, sentence = "BAD: road, kind; KIND: it is not of that KIND, nor of one under it.")
    static void asRefusesARoadOrAKindThatIsNone() {
        for (int road : outside(0, 3)) {
            refused("as(" + road + ", 0)", () -> rich(), x -> x.as(road, 0), BAD);
            refused("as(" + road + ", 1): BAD, not KIND", () -> rich(), x -> x.as(road, 1), BAD);
        }
        for (int kind : outside(0, 5)) {
            refused("as(0, " + kind + ")", () -> rich(), x -> x.as(0, kind), BAD);
        }
        refused("without roads", () -> empty(), x -> x.as(0, 0), BAD);
    }

    // ---- promise 9

    @Of(promise = 9, sentence = "BAD.")
    static void turnsRefusesARoadOrAKindThatIsNone() {
        for (int road : outside(0, 3)) {
            refused("turns(" + road + ", 0)", () -> rich(), x -> x.turns(road, 0), BAD);
        }
        for (int kind : outside(0, 5)) {
            refused("turns(0, " + kind + ")", () -> rich(), x -> x.turns(0, kind), BAD);
        }
        refused("without roads", () -> empty(), x -> x.turns(0, 0), BAD);
    }

    @Of(promise = 9, sentence = "A ROAD is of another KIND from now on: what it was.")
    static void turnsToTheFirstTheLastAndTheSameKind() {
        RoadsCrossed x = full();
        int was = x.told(17, 0);
        due("turns(17, 5)", x.turns(17, 5), was);
        due("turns(17, 0)", x.turns(17, 0), 5);
        due("turns(17, 0) again", x.turns(17, 0), 0);
        due("turns(17, 1)", x.turns(17, 1), 0);
        tellsOnly("to the kind that it is of", () -> rich(), y -> y.turns(2, 3), 3);
    }

    // ---- promise 10

    @Of(promise = 10, sentence = "BAD.")
    static void setRefusesARoadThatIsNone() {
        for (int road : outside(0, 3)) {
            refused("set(" + road + ", 0, 1)", () -> rich(), x -> x.set(road, 0, 1), BAD);
            refused("set(" + road + ", 1, 1)", () -> rich(), x -> x.set(road, 1, 1), BAD);
        }
        refused("without roads", () -> empty(), x -> x.set(0, 0, 1), BAD);
    }

    @Of(promise = 10, sentence = "BAD.")
    static void setRefusesAWhatThatIsNone() {
        for (int what : outside(0, 1)) {
            refused("set(0, " + what + ", 1)", () -> rich(), x -> x.set(0, what, 1), BAD);
        }
    }

    @Of(promise = 10, sentence = "WEIGHT (what 0), PAGE (1) of a ROAD becomes v: what it was. BAD.")
    static void setRefusesAWeightOrAPageOutside() {
        for (int v : outside(1, 9)) {
            refused("set(0, 0, " + v + ")", () -> rich(), x -> x.set(0, 0, v), BAD);
        }
        for (int v : outside(0, 3)) {
            refused("set(1, 1, " + v + ")", () -> rich(), x -> x.set(1, 1, v), BAD);
        }
    }

    @Of(promise = 10, sentence = "WEIGHT (what 0), PAGE (1) of a ROAD becomes v: what it was.")
    static void setTheLeastTheMostAndTheSame() {
        RoadsCrossed x = crossedSquare();
        due("set(1, 0, 9)", x.set(1, 0, 9), 5);
        due("set(1, 0, 1)", x.set(1, 0, 1), 9);
        due("set(1, 0, 1) again", x.set(1, 0, 1), 1);
        due("set(1, 1, 3)", x.set(1, 1, 3), 0);
        due("set(1, 1, 0)", x.set(1, 1, 0), 3);
        due("set(1, 1, 0) again", x.set(1, 1, 0), 0);
        due("the weight stays", x.told(1, 3), 1);
        due("the other's weight", x.told(0, 3), 3);
        due("the other's page", x.told(0, 4), 0);
    }

    // ---- promise 11

    @Of(promise = 11, sentence = "BAD.")
    static void dropRefusesARoadThatIsNone() {
        for (int road : outside(0, 3)) {
            refused("drop(" + road + ")", () -> rich(), x -> x.drop(road), BAD);
        }
        refused("road 18 of 18", () -> full(), x -> x.drop(18), BAD);
        refused("without roads", () -> posts(8), x -> x.drop(0), BAD);
    }

    @Of(promise = 11, sentence = "A ROAD goes; those with greater numbers have one less: how many there are.")
    static void dropOfTheFirstOf18() {
        RoadsCrossed before = full();
        RoadsCrossed x = full();
        due("drop(0)", x.drop(0), 17);
        for (int road = 0; road < 17; road++) {
            for (int what = 0; what <= 6; what++) {
                due("told(" + road + ", " + what + ")", x.told(road, what), before.told(road + 1, what));
            }
        }
        due("told(17, 0)", x.told(17, 0), BAD);
    }

    @Of(promise = 11, sentence = "those with greater numbers have one less")
    static void dropTakesPagesAlong() {
        RoadsCrossed x = rich();
        for (int road = 0; road < 4; road++) {
            x.set(road, 1, road);
        }
        due("drop(1)", x.drop(1), 3);
        due("page of road 0", x.told(0, 4), 0);
        due("page of road 1", x.told(1, 4), 2);
        due("page of road 2", x.told(2, 4), 3);
    }

    @Of(promise = 11, sentence = "A ROAD goes; those with greater numbers have one less: how many there are.")
    static void dropOfTheLastChangesNoOther() {
        RoadsCrossed before = rich();
        RoadsCrossed x = rich();
        due("drop(3)", x.drop(3), 3);
        for (int road = 0; road < 3; road++) {
            for (int what = 0; what <= 6; what++) {
                due("told(" + road + ", " + what + ")", x.told(road, what), before.told(road, what));
            }
        }
        due("roads from post 1", x.postTold(1, 4), 1);
    }

    @Of(promise = 11, sentence = "A ROAD goes; those with greater numbers have one less: how many there are.")
    static void dropUntilNoneAreLeft() {
        RoadsCrossed x = full();
        for (int left = 17; left >= 0; left--) {
            due("drop(0)", x.drop(0), left);
        }
        due("one more", x.drop(0), BAD);
        due("straight(0)", x.straight(0), 0);
        due("pages(-1)", x.pages(-1), 0);
        due("road", x.road(0, 1, 1), 0);
    }
}

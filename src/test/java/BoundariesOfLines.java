import java.util.ArrayList;
import java.util.Iterator;
import java.util.List;
import java.util.function.Supplier;

/** Boundary cases of promises 18 to 24, and of what Terms say of the line, the book and layers: each test names its sentence. */
public final class BoundariesOfLines extends Boundaries {
    public static void main(String[] args) {
        run(BoundariesOfLines.class, 18, 24);
    }

    /** The rich state (6 posts), with a row of values in sheet 2. */
    private static RoadsCrossed richWith(int sort, int... values) {
        RoadsCrossed x = rich();
        row(x, 2, sort, values);
        return x;
    }

    private static void lineIs(RoadsCrossed x, int... posts) {
        for (int place = 0; place < posts.length; place++) {
            due("at(" + place + ")", x.at(place), posts[place]);
            due("place of post " + posts[place], x.postTold(posts[place], 3), place);
        }
        due("at(" + posts.length + ")", x.at(posts.length), BAD);
    }

    /** The layers of posts from 0 on become these. */
    private static RoadsCrossed inLayers(RoadsCrossed x, int... layers) {
        for (int post = 0; post < layers.length; post++) {
            x.layer(post, layers[post]);
        }
        return x;
    }

    /** Posts 0 to 4 in layer 0, 5 to 7 in layer 1, and roads that cross as long as their row is by numbers. */
    private static RoadsCrossed fiveOverThree() {
        return inLayers(roads(8, 7, 16, 25), 0, 0, 0, 0, 0, 1, 1, 1);
    }

    // ---- Terms

    @Of(terms = 2, sentence = "THE LINE is a row of all POSTS (by numbers at first; a new POST comes behind all).")
    static void aNewPostComesBehindAll() {
        lineIs(posts(8), 0, 1, 2, 3, 4, 5, 6, 7);
        RoadsCrossed x = rich();
        x.post(1, 2);
        lineIs(x, 5, 4, 3, 2, 1, 0, 6);
        row(x, 2, SHORTS, 103);
        x.pour(2);
        lineIs(x, 5, 4, 3, 2, 1, 0, 6, 7);
    }

    @Of(terms = 2, sentence = "THE LINE is a row of all POSTS (by numbers at first; a new POST comes behind all).")
    static void aNewPostComesBehindAllOfAnImage() {
        RoadsCrossed x = rich();
        x.keep();
        x.post(1, 2);
        row(x, 2, SHORTS, 6, 0, 1, 2, 3, 4, 5);
        due("line", x.line(2), 7);
        x.back();
        lineIs(x, 5, 4, 3, 2, 1, 0);
        x.post(1, 3);
        lineIs(x, 5, 4, 3, 2, 1, 0, 6);
    }

    @Of(terms = 2, sentence = "if along THE LINE just one end of the one is between both ends of the other")
    static void inTheBookJustOneEndIsBetween() {
        due("one end between", roads(4, 2, 13).book(0), 1);
        due("one end between, the greater road first", roads(4, 13, 2).book(0), 1);
        due("both ends between", roads(4, 3, 12).book(0), 0);
        due("no end between", roads(4, 1, 23).book(0), 0);
    }

    @Of(terms = 2, sentence = "IN THE BOOK two ROADS on one PAGE without a POST in common cross")
    static void inTheBookOnOnePageWithoutAPostInCommon() {
        RoadsCrossed x = roads(4, 2, 13);
        x.set(0, 1, 3);
        due("pages 3 and 0", x.book(0), 0);
        x.set(1, 1, 3);
        due("both on page 3", x.book(0), 1);
        due("its cost", x.book(1), 2);
        due("a post in common", roads(4, 2, 12, 23).book(0), 0);
        due("a post in common, one end between", roads(4, 3, 2).book(0), 0);
    }

    @Of(terms = 2, sentence = "FEWEST PAGES: the least k for which ROADS can be on PAGES 0 .. k - 1 (any k; 0 without ROADS) so that none cross")
    static void fewestPagesFromNoneToTheMost() {
        due("without posts", empty().pages(-1), 0);
        due("without roads", posts(8).pages(-1), 0);
        due("one road", roads(2, 1).pages(-1), 1);
        due("one road's page", roads(2, 1).pages(0), 0);
        RoadsCrossed x = roads(8, 4, 15, 26, 37);
        due("four that all cross", x.pages(-1), 4);
        for (int road = 0; road < 4; road++) {
            due("page of road " + road, x.pages(road), road);
        }
        due("three that all cross", roads(8, 4, 15, 26).pages(-1), 3);
    }

    @Of(terms = 2, sentence = "of all such ways the first (by ROADS, the lesser PAGE first)")
    static void fewestPagesNeedALaterPageForAnEarlierRoad() {
        // Road 0 crosses 2, 2 crosses 3, 3 crosses 1: with roads 0 and 1 on one page there would be three.
        RoadsCrossed x = roads(8, 2, 57, 14, 36);
        due("pages(-1)", x.pages(-1), 2);
        due("pages(0)", x.pages(0), 0);
        due("pages(1)", x.pages(1), 1);
        due("pages(2)", x.pages(2), 1);
        due("pages(3)", x.pages(3), 0);
    }

    @Of(terms = 2, sentence = "BEST LINE: of all rows of POSTS that begin with POST 0")
    static void bestLineBeginsWithPost0WhateverTheLineIs() {
        RoadsCrossed x = roads(4, 2, 13);
        row(x, 0, SHORTS, 3, 2, 1, 0);
        x.line(0);
        due("cost", x.bestLine(-1), 0);
        due("place 0", x.bestLine(0), 0);
        due("place 1", x.bestLine(1), 1);
        due("place 2", x.bestLine(2), 3);
        due("place 3", x.bestLine(3), 2);
    }

    @Of(terms = 2, sentence = "if all were on one PAGE; of several the first (by places, the lesser POST first)")
    static void bestLineIsAsIfAllWereOnOnePage() {
        RoadsCrossed x = roads(4, 1, 2, 3, 12, 13, 23);
        due("four posts and all roads: one pair", x.bestLine(-1), 2);
        for (int place = 0; place < 4; place++) {
            due("all rows cost the same: place " + place, x.bestLine(place), place);
        }
        x.set(1, 1, 3);
        due("other pages do not matter", x.bestLine(-1), 2);
        due("though none cross in the book", x.book(0), 0);
    }

    @Of(terms = 2, sentence = "the one with the least COST of all ROADS that would cross, if all were on one PAGE")
    static void bestLineIsOfTheLeastCostNotOfTheFewestPairs() {
        // With all roads among five posts each row has five pairs; what they cost is another matter.
        RoadsCrossed x = roads(5, 1, 12, 23, 34, 4, 2, 13, 24, 3, 14);
        for (int road = 5; road < 10; road++) {
            x.set(road, 0, 9);
        }
        due("pairs as the line is", x.book(0), 5);
        due("their cost", x.book(1), 90);
        due("the least", x.bestLine(-1), 10);
        int[] best = {0, 2, 4, 1, 3};
        for (int place = 0; place < 5; place++) {
            due("place " + place, x.bestLine(place), best[place]);
        }
        say(x, "cross 7");
        due("if all cost the same", x.bestLine(-1), 35);
        due("the first row", x.bestLine(1), 1);
    }

    @Of(terms = 2, sentence = "BEST ROW of a LAYER (5 POSTS at most): of all ways in which POSTS of it change among their places in THE LINE the one with the least COST of all ROADS that cross IN LAYERS; of several the first (by these places, the lesser POST first).")
    static void bestRowIsTheFirstBestOfAllWays() {
        for (int z = 0; z < 4; z++) {
            int seed = z;
            bestOfAllWays(() -> drawnInLayers(seed, 0, 1, 0, 1, 0, 1, 0, 0), 0);
            bestOfAllWays(() -> drawnInLayers(seed, 0, 1, 0, 1, 0, 1, 0, 0), 1);
            bestOfAllWays(() -> drawnInLayers(seed, 2, 1, 1, 2, 1, 3, 1, 1), 1);
            bestOfAllWays(() -> drawnInLayers(seed, 3, 2, 3, 1, 2, 3, 3, 0), 3);
            bestOfAllWays(() -> drawnInLayers(seed, 3, 2, 3, 1, 2, 3, 3, 0), 0);
        }
        bestOfAllWays(() -> inLayers(posts(5), 2, 2, 2, 2, 2), 2);
    }

    /** Eight posts and some roads by lot, in these layers, in a line by lot. */
    private static RoadsCrossed drawnInLayers(int z, int... layers) {
        RoadsCrossed x = inLayers(posts(8), layers);
        x.seed(z);
        x.deal(1, 20);
        int[] line = new int[8];
        for (int place = 0; place < 8; place++) {
            line[place] = (place * 3 + z) % 8;
        }
        row(x, 0, SHORTS, line);
        x.line(0);
        return x;
    }

    /** Each way is tried on an object of its own, since there are up to 120. */
    private static void bestOfAllWays(Supplier<RoadsCrossed> state, int layer) {
        List<Integer> line = new ArrayList<>();
        List<Integer> posts = new ArrayList<>();
        RoadsCrossed x = state.get();
        for (int i = 0; i < x.count(0); i++) {
            line.add(x.at(i));
            if (x.postTold(i, 2) == layer) {
                posts.add(i);
            }
        }
        List<List<Integer>> ways = new ArrayList<>();
        collectWays(posts, new ArrayList<>(), ways);
        int least = MOST;
        List<Integer> best = List.of();
        for (List<Integer> way : ways) {
            Iterator<Integer> next = way.iterator();
            RoadsCrossed y = state.get();
            row(y, 0, SHORTS, line.stream().mapToInt(post -> posts.contains(post) ? next.next() : post).toArray());
            due("it is a line", y.line(0), line.size());
            if (y.layers(1) < least) {
                least = y.layers(1);
                best = way;
            }
        }
        due("the cost of layer " + layer, x.bestRow(layer, -1), least);
        for (int place = 0; place < best.size(); place++) {
            due("layer " + layer + ", place " + place, x.bestRow(layer, place), best.get(place));
        }
        due("layer " + layer + ", behind the last", x.bestRow(layer, best.size()), NONE);
    }

    /** All ways to put posts behind those that stand, the lesser post first. */
    private static void collectWays(List<Integer> posts, List<Integer> standing, List<List<Integer>> ways) {
        if (standing.size() == posts.size()) {
            ways.add(new ArrayList<>(standing));
        }
        for (int post : posts) {
            if (!standing.contains(post)) {
                standing.add(post);
                collectWays(posts, standing, ways);
                standing.remove(standing.size() - 1);
            }
        }
    }

    @Of(terms = 2, sentence = "IN LAYERS two ROADS, both between a POST of LAYER l and one of LAYER l and 1 (l the same), without a POST in common, cross")
    static void inLayersOfEachTwoNeighbours() {
        due("layers 0 and 1", inLayers(roads(4, 3, 12), 0, 0, 1, 1).layers(0), 1);
        due("layers 2 and 3", inLayers(roads(4, 3, 12), 2, 2, 3, 3).layers(0), 1);
        due("layers 3 and 2", inLayers(roads(4, 3, 12), 3, 3, 2, 2).layers(0), 1);
        due("layers 0 and 2", inLayers(roads(4, 3, 12), 0, 0, 2, 2).layers(0), 0);
        due("layers 0 and 3", inLayers(roads(4, 3, 12), 0, 0, 3, 3).layers(0), 0);
        due("all in layer 0", inLayers(roads(4, 3, 12), 0, 0, 0, 0).layers(0), 0);
        due("one in 0 and 1, one in 1 and 2", inLayers(roads(4, 3, 12), 0, 1, 2, 1).layers(0), 0);
        due("one in 0 and 1, one in 2 and 3", inLayers(roads(4, 3, 12), 0, 2, 3, 1).layers(0), 0);
        due("one from its lesser post down, one up", inLayers(roads(4, 3, 12), 0, 1, 0, 1).layers(0), 1);
        due("one from its lesser post down, one up, side by side", inLayers(roads(4, 1, 23), 0, 1, 1, 0).layers(0), 0);
        due("a post in common", inLayers(roads(4, 2, 3, 12), 0, 0, 1, 1).layers(0), 1);
    }

    @Of(terms = 2, sentence = "if their ends in l stand in THE LINE one way round, and those in l and 1 the other way")
    static void inLayersByTheWayRound() {
        due("the same way", inLayers(roads(4, 2, 13), 0, 0, 1, 1).layers(0), 0);
        RoadsCrossed x = inLayers(roads(4, 2, 13), 0, 0, 1, 1);
        row(x, 0, SHORTS, 3, 1, 2, 0);
        x.line(0);
        due("both the other way", x.layers(0), 0);
        row(x, 0, SHORTS, 3, 0, 2, 1);
        x.line(0);
        due("one the other way", x.layers(0), 1);
        due("its cost", x.layers(1), 2);
    }

    // ---- promise 18

    @Of(promise = 18, sentence = "BAD; NOTHING;")
    static void lineRefusesASheetThatIsNone() {
        for (int sheet : outside(0, 3)) {
            refused("line(" + sheet + ")", () -> rich(), x -> x.line(sheet), BAD);
        }
    }

    @Of(promise = 18, sentence = "NOTHING;")
    static void lineRefusesAMissingSheet() {
        refused("line(2)", () -> rich(), x -> x.line(2), NOTHING);
        refused("line(0) of a new object", () -> empty(), x -> x.line(0), NOTHING);
        refused("line(0) of a sheet that became missing", () -> {
            RoadsCrossed x = rich();
            x.sheet(0, -1, 0);
            return x;
        }, x -> x.line(0), NOTHING);
    }

    @Of(promise = 18, sentence = "SIZE: there are fewer or more places than POSTS")
    static void lineRefusesFewerOrMorePlaces() {
        refused("one fewer", () -> richWith(SHORTS, 0, 1, 2, 3, 4), x -> x.line(2), SIZE);
        refused("one more", () -> richWith(SHORTS, 0, 1, 2, 3, 4, 5, 6), x -> x.line(2), SIZE);
        refused("none", () -> rich(), x -> x.line(3), SIZE);
        refused("24", () -> full(), x -> x.line(0), SIZE);
        refused("one place without posts", () -> {
            RoadsCrossed x = empty();
            x.sheet(0, SHORTS, 1);
            return x;
        }, x -> x.line(0), SIZE);
    }

    @Of(promise = 18, sentence = "KIND: one is NO NUMBER")
    static void lineRefusesNoNumber() {
        refused("the first", () -> richWith(FLOATS, NONE, 1, 2, 3, 4, 5), x -> x.line(2), KIND);
        refused("the last", () -> richWith(FLOATS, 0, 1, 2, 3, 4, NONE), x -> x.line(2), KIND);
        refused("all", () -> richWith(FLOATS, NONE, NONE, NONE, NONE, NONE, NONE), x -> x.line(2), KIND);
    }

    @Of(promise = 18, sentence = "BAD: they are not all POSTS, each once.")
    static void lineRefusesWhatIsNotAllPostsEachOnce() {
        refused("one twice", () -> richWith(SHORTS, 0, 1, 2, 3, 4, 0), x -> x.line(2), BAD);
        refused("all 0", () -> richWith(SHORTS, 0, 0, 0, 0, 0, 0), x -> x.line(2), BAD);
        refused("6", () -> richWith(SHORTS, 0, 1, 2, 3, 4, 6), x -> x.line(2), BAD);
        refused("-1", () -> richWith(SHORTS, -1, 1, 2, 3, 4, 5), x -> x.line(2), BAD);
        refused("32, a bit that wraps to 0", () -> richWith(SHORTS, 32, 1, 2, 3, 4, 5), x -> x.line(2), BAD);
        refused("32767", () -> richWith(SHORTS, 0, 1, 2, 3, 4, 32767), x -> x.line(2), BAD);
        refused("-32768", () -> richWith(SHORTS, 0, 1, 2, 3, 4, -32768), x -> x.line(2), BAD);
        refused("99999", () -> richWith(FLOATS, 0, 1, 2, 3, 4, 99999), x -> x.line(2), BAD);
        refused("-99999", () -> richWith(FLOATS, 0, 1, 2, 3, 4, -99999), x -> x.line(2), BAD);
    }

    @Of(promise = 18, sentence = "BAD; NOTHING; SIZE: there are fewer or more places than POSTS; KIND: one is NO NUMBER; BAD: they are not all POSTS, each once.")
    static void lineRefusesInThisOrder() {
        refused("SIZE ahead of KIND", () -> rich(), x -> x.line(1), SIZE);
        refused("SIZE ahead of BAD", () -> richWith(SHORTS, 9, 9, 9), x -> x.line(2), SIZE);
        refused("KIND ahead of BAD, which is at an earlier place", () -> richWith(FLOATS, 9, 9, -1, 3, 4, NONE), x -> x.line(2), KIND);
    }

    @Of(promise = 18, sentence = "THE LINE becomes the places of a SHEET from 0 on: how many POSTS.")
    static void lineOfNoPostsAndOfAll() {
        tellsOnly("no posts, no places", () -> {
            RoadsCrossed x = empty();
            x.sheet(3, FLOATS, 0);
            return x;
        }, x -> x.line(3), 0);
        RoadsCrossed x = posts(8);
        row(x, 0, FLOATS, 7, 0, 6, 1, 5, 2, 4, 3);
        due("8 floats", x.line(0), 8);
        lineIs(x, 7, 0, 6, 1, 5, 2, 4, 3);
        x.mark(0, 0, 0);
        lineIs(x, 7, 0, 6, 1, 5, 2, 4, 3);
        tellsOnly("as it is", () -> rich(), y -> y.line(0), 6);
    }

    // ---- promise 19

    @Of(promise = 19, sentence = "BAD.")
    static void atRefusesAPlaceThatIsNone() {
        for (int place : outside(0, 5)) {
            refused("at(" + place + ")", () -> rich(), x -> x.at(place), BAD);
        }
        refused("8 of 8", () -> full(), x -> x.at(8), BAD);
        refused("without posts", () -> empty(), x -> x.at(0), BAD);
    }

    @Of(promise = 19, sentence = "Which POST is at a place of THE LINE.")
    static void atTheFirstAndTheLastPlace() {
        tellsOnly("at(0)", () -> rich(), x -> x.at(0), 5);
        tellsOnly("at(5)", () -> rich(), x -> x.at(5), 0);
        tellsOnly("at(7)", () -> full(), x -> x.at(7), 7);
    }

    // ---- promise 20

    @Of(promise = 20, sentence = "BAD.")
    static void bookRefusesAWhatThatIsNone() {
        for (int what : outside(0, 1)) {
            refused("book(" + what + ")", () -> rich(), x -> x.book(what), BAD);
            refused("book(" + what + ") without roads", () -> empty(), x -> x.book(what), BAD);
        }
    }

    @Of(promise = 20, sentence = "Of all ROADS that cross IN THE BOOK: what 0 how many pairs, 1 COST.")
    static void bookOfNoneAndOfTheMost() {
        for (int what = 0; what <= 1; what++) {
            int w = what;
            tellsOnly("without roads", () -> posts(8), x -> x.book(w), 0);
            tellsOnly("one road", () -> roads(8, 7), x -> x.book(w), 0);
        }
        RoadsCrossed y = roads(8, 4, 15, 26, 37);
        due("pairs of four that all cross", y.book(0), 6);
        say(y, "cross 9999");
        due("999 each", y.book(1), 6 * 999);
        say(y, "cross 0-1");
        due("0 each", y.book(1), 0);
    }

    // ---- promise 21

    @Of(promise = 21, sentence = "BAD: what.")
    static void pagesRefusesAWhatThatIsNone() {
        for (int what : outside(-1, 3)) {
            refused("pages(" + what + ")", () -> rich(), x -> x.pages(what), BAD);
        }
        refused("road 18 of 18", () -> full(), x -> x.pages(18), BAD);
        refused("road 0 of none", () -> posts(8), x -> x.pages(0), BAD);
        refused("road 0 of none, without posts", () -> empty(), x -> x.pages(0), BAD);
    }

    @Of(promise = 21, sentence = "FEWEST PAGES: what -1 how many, else the PAGE of that ROAD.")
    static void pagesOfAllThereIsRoomForChangesNoPage() {
        tellsOnly("of none", () -> posts(8), x -> x.pages(-1), 0);
        RoadsCrossed y = full();
        int fewest = y.pages(-1);
        int last = y.pages(17);
        tellsOnly("pages(-1)", () -> full(), x -> x.pages(-1), fewest);
        tellsOnly("pages(17)", () -> full(), x -> x.pages(17), last);
        for (int road = 0; road <= 17; road++) {
            int page = y.pages(road);
            holds("page " + page + " is below " + fewest, page >= 0 && page < fewest);
        }
        for (int road = 0; road <= 17; road++) {
            y.set(road, 1, y.pages(road));
        }
        due("none cross then", y.book(0), 0);
    }

    @Of(promise = 21, sentence = "FEWEST PAGES: what -1 how many, else the PAGE of that ROAD.")
    static void pagesAgainWhenRoadsOrTheLineChange() {
        RoadsCrossed x = roads(8, 4, 15, 26, 37);
        due("four that all cross", x.pages(-1), 4);
        x.drop(0);
        due("three", x.pages(-1), 3);
        due("the first", x.pages(0), 0);
        due("the last", x.pages(2), 2);
        row(x, 0, SHORTS, 0, 1, 5, 2, 6, 3, 7, 4);
        x.line(0);
        due("side by side", x.pages(-1), 1);
        due("the last", x.pages(2), 0);
    }

    // ---- promise 22

    @Of(promise = 22, sentence = "BAD: what below -1")
    static void bestLineRefusesAWhatBelowMinus1() {
        refused("bestLine(-2)", () -> rich(), x -> x.bestLine(-2), BAD);
        refused("bestLine of the least int", () -> rich(), x -> x.bestLine(LEAST), BAD);
    }

    @Of(promise = 22, sentence = "NO: there are no POSTS")
    static void bestLineRefusesNoPosts() {
        refused("bestLine(-1)", () -> empty(), x -> x.bestLine(-1), NO);
        refused("bestLine(0)", () -> empty(), x -> x.bestLine(0), NO);
    }

    @Of(promise = 22, sentence = "NONE: there is no such place.")
    static void bestLineRefusesAPlaceThatIsNone() {
        refused("bestLine(6) of 6", () -> rich(), x -> x.bestLine(6), NONE);
        refused("bestLine of the greatest int", () -> rich(), x -> x.bestLine(MOST), NONE);
        refused("bestLine(8) of 8", () -> full(), x -> x.bestLine(8), NONE);
        refused("bestLine(1) of 1", () -> posts(1), x -> x.bestLine(1), NONE);
    }

    @Of(promise = 22, sentence = "BAD: what below -1; NO: there are no POSTS; NONE: there is no such place.")
    static void bestLineRefusesInThisOrder() {
        refused("BAD ahead of NO", () -> empty(), x -> x.bestLine(-2), BAD);
        refused("NO ahead of NONE", () -> empty(), x -> x.bestLine(8), NO);
        refused("NO ahead of NONE", () -> empty(), x -> x.bestLine(MOST), NO);
    }

    @Of(promise = 22, sentence = "BEST LINE: what -1 the COST, else the POST at that place.")
    static void bestLineOfOnePostAndWithoutRoads() {
        tellsOnly("one post: the cost", () -> posts(1), x -> x.bestLine(-1), 0);
        tellsOnly("one post: the post", () -> posts(1), x -> x.bestLine(0), 0);
        for (int place = 0; place < 8; place++) {
            due("without roads: place " + place, posts(8).bestLine(place), place);
        }
        due("without roads: the cost", posts(8).bestLine(-1), 0);
    }

    @Of(promise = 22, sentence = "BEST LINE: what -1 the COST, else the POST at that place.")
    static void bestLineOfAllThereIsRoomForChangesNothing() {
        RoadsCrossed y = full();
        int cost = y.bestLine(-1);
        int last = y.bestLine(7);
        tellsOnly("bestLine(-1)", () -> full(), x -> x.bestLine(-1), cost);
        tellsOnly("bestLine(7)", () -> full(), x -> x.bestLine(7), last);
        y.sheet(0, SHORTS, 8);
        for (int place = 0; place < 8; place++) {
            y.mark(0, place, y.bestLine(place));
        }
        due("it is a line", y.line(0), 8);
        due("its cost", y.book(1), cost);
    }

    @Of(promise = 22, sentence = "BEST LINE: what -1 the COST, else the POST at that place.")
    static void bestLineIsTheFirstBestOfAllRows() {
        int[][] lands = {
            {2, 13, 24, 3, 14},
            {14, 3, 24, 13, 2, 34},
            {1, 12, 23, 34, 4, 2, 13},
            {24, 13, 2, 14, 3, 1, 23, 34},
            {34, 24, 23, 14, 13, 12, 4, 3, 2, 1}};
        for (int[] ends : lands) {
            RoadsCrossed x = roads(5, ends);
            for (int road = 0; road < ends.length; road++) {
                x.set(road, 0, 1 + road * 5 % 9);
            }
            bestOfAllRows(x);
            x.drop(0);
            bestOfAllRows(x);
        }
    }

    /** Tries all 24 rows of 5 posts that begin with post 0. */
    private static void bestOfAllRows(RoadsCrossed x) {
        int least = MOST;
        int best = 0;
        x.sheet(0, SHORTS, 5);
        for (int row = 1234; row <= 4321; row++) {
            if (isOrderOf1To4(row)) {
                for (int place = 1, rest = row, by = 1000; place <= 4; place++, rest %= by, by /= 10) {
                    x.mark(0, place, rest / by);
                }
                x.line(0);
                if (x.book(1) < least) {
                    least = x.book(1);
                    best = row;
                }
            }
        }
        due("cost", x.bestLine(-1), least);
        due("row", 1000 * x.bestLine(1) + 100 * x.bestLine(2) + 10 * x.bestLine(3) + x.bestLine(4), best);
        due("place 0", x.bestLine(0), 0);
    }

    private static boolean isOrderOf1To4(int row) {
        int seen = 0;
        for (int rest = row; rest > 0; rest /= 10) {
            seen |= 1 << rest % 10;
        }
        return seen == 0b11110;
    }

    // ---- promise 23

    @Of(promise = 23, sentence = "BAD.")
    static void layersRefusesAWhatThatIsNone() {
        for (int what : outside(0, 1)) {
            refused("layers(" + what + ")", () -> rich(), x -> x.layers(what), BAD);
            refused("layers(" + what + ") without roads", () -> empty(), x -> x.layers(what), BAD);
        }
    }

    @Of(promise = 23, sentence = "Of all ROADS that cross IN LAYERS: what 0 how many pairs, 1 COST.")
    static void layersOfNoneAndOfSome() {
        for (int what = 0; what <= 1; what++) {
            int w = what;
            tellsOnly("without roads", () -> posts(8), x -> x.layers(w), 0);
            tellsOnly("all of layer 0", () -> full(), x -> x.layers(w), 0);
        }
        tellsOnly("one pair", () -> rich(), x -> x.layers(0), 1);
        tellsOnly("TRACK of 3 and MUD of 5", () -> rich(), x -> x.layers(1), 8);
        due("three that all cross", fiveOverThree().layers(0), 3);
    }

    // ---- promise 24

    @Of(promise = 24, sentence = "BAD: layer, what below -1")
    static void bestRowRefusesALayerOrAWhat() {
        for (int layer : outside(0, 3)) {
            refused("bestRow(" + layer + ", -1)", () -> rich(), x -> x.bestRow(layer, -1), BAD);
            refused("bestRow(" + layer + ", 99)", () -> rich(), x -> x.bestRow(layer, 99), BAD);
        }
        refused("bestRow(0, -2)", () -> rich(), x -> x.bestRow(0, -2), BAD);
        refused("bestRow of the least int", () -> rich(), x -> x.bestRow(0, LEAST), BAD);
    }

    @Of(promise = 24, sentence = "NO: it has more than 5 POSTS")
    static void bestRowRefusesMoreThan5Posts() {
        refused("6 posts, the cost", () -> posts(6), x -> x.bestRow(0, -1), NO);
        refused("8 posts, the first", () -> full(), x -> x.bestRow(0, 0), NO);
        tellsOnly("another layer", () -> full(), x -> x.bestRow(1, -1), 0);
    }

    @Of(promise = 24, sentence = "NO: it has more than 5 POSTS")
    static void bestRowOfJust5Posts() {
        tellsOnly("the cost", () -> fiveOverThree(), x -> x.bestRow(0, -1), 0);
        int[] row = {2, 1, 0, 3, 4};
        for (int place = 0; place < 5; place++) {
            due("place " + place, fiveOverThree().bestRow(0, place), row[place]);
        }
        due("behind the last", fiveOverThree().bestRow(0, 5), NONE);
    }

    @Of(promise = 24, sentence = "BEST ROW of a LAYER (0 .. 3)")
    static void bestRowOf5PostsIsTheLastOfAllWays() {
        // Only with 4, 3, 2, 1, 0 none cross.
        RoadsCrossed x = inLayers(roads(8, 45, 35, 36, 26, 16, 17, 7), 0, 0, 0, 0, 0, 1, 1, 1);
        due("cost", x.bestRow(0, -1), 0);
        for (int place = 0; place < 5; place++) {
            due("place " + place, x.bestRow(0, place), 4 - place);
        }
    }

    @Of(promise = 24, sentence = "BEST ROW of a LAYER (0 .. 3)")
    static void bestRowOfOneLayerBehindAnother() {
        RoadsCrossed x = fiveOverThree();
        due("layer 0", x.bestRow(0, 0), 2);
        due("layer 1", x.bestRow(1, 0), 7);
        due("layer 1, the cost", x.bestRow(1, -1), 0);
        due("layer 2, the cost as all stand", x.bestRow(2, -1), 6);
        due("layer 1, the last", x.bestRow(1, 2), 5);
        due("layer 1, behind the last", x.bestRow(1, 3), NONE);
        due("layer 0 again", x.bestRow(0, 4), 4);
    }

    @Of(promise = 24, sentence = "NONE: it has no such place.")
    static void bestRowRefusesAPlaceThatIsNone() {
        refused("place 2 of 2", () -> rich(), x -> x.bestRow(0, 2), NONE);
        refused("place 1 of 1", () -> rich(), x -> x.bestRow(3, 1), NONE);
        refused("the greatest int", () -> rich(), x -> x.bestRow(3, MOST), NONE);
        refused("place 0 of none", () -> full(), x -> x.bestRow(3, 0), NONE);
        refused("without posts", () -> empty(), x -> x.bestRow(0, 0), NONE);
    }

    @Of(promise = 24, sentence = "BAD: layer, what below -1; NO: it has more than 5 POSTS; NONE: it has no such place.")
    static void bestRowRefusesInThisOrder() {
        refused("layer ahead of NONE", () -> full(), x -> x.bestRow(4, 0), BAD);
        refused("what ahead of NO", () -> full(), x -> x.bestRow(0, -2), BAD);
        refused("NO ahead of NONE", () -> full(), x -> x.bestRow(0, 8), NO);
        refused("NO ahead of NONE", () -> full(), x -> x.bestRow(0, MOST), NO);
    }

    @Of(promise = 24, sentence = "what -1 the COST, else the POST at that of its places (0, 1, ..)")
    static void bestRowOfALayerWithoutPostsAndWithFew() {
        due("without posts", empty().bestRow(0, -1), 0);
        RoadsCrossed x = inLayers(roads(4, 3, 12), 0, 0, 1, 1);
        due("a layer without posts: the cost as all stand", x.bestRow(3, -1), 2);
        tellsOnly("one post: the cost as all stand", () -> rich(), y -> y.bestRow(2, -1), 8);
        tellsOnly("one post", () -> rich(), y -> y.bestRow(2, 0), 3);
        tellsOnly("two posts: the cost", () -> rich(), y -> y.bestRow(0, -1), 0);
        tellsOnly("two posts: the first", () -> rich(), y -> y.bestRow(0, 0), 0);
        tellsOnly("two posts: the last", () -> rich(), y -> y.bestRow(0, 1), 4);
        tellsOnly("layer 1: the first", () -> rich(), y -> y.bestRow(1, 0), 1);
    }
}

/** Boundary cases of promises 32 to 35, and of what Terms say of sheets: each test names its sentence. */
public final class BoundariesOfSheets extends Boundaries {
    public static void main(String[] args) {
        run(BoundariesOfSheets.class, 32, 35);
    }

    /** The rich state with sheets 0 of five shorts, 1 of three floats (one NO NUMBER), 2 missing, 3 of three shorts. */
    private static RoadsCrossed rows() {
        RoadsCrossed x = rich();
        row(x, 0, SHORTS, 1, 2, 3, 4, 5);
        row(x, 1, FLOATS, 10, NONE, 30);
        row(x, 3, SHORTS, 7, 8, 9);
        return x;
    }

    /** A new object with a sheet 0. */
    private static RoadsCrossed withRow(int sort, int... values) {
        RoadsCrossed x = empty();
        row(x, 0, sort, values);
        return x;
    }

    /** The places of a sheet, NO NUMBER as KIND; uses slot 0. */
    private static void sheetIs(RoadsCrossed x, int sheet, int... values) {
        x.lay(0, 2, sheet);
        for (int place = 0; place < values.length; place++) {
            due("place " + place + " of sheet " + sheet, x.item(0, place), values[place]);
        }
        due("places of sheet " + sheet, x.item(0, values.length), INDEX);
    }

    /** What a place of shorts becomes. */
    private static void shortIs(int v, int want) {
        RoadsCrossed x = withRow(SHORTS, 1);
        due("mark of " + v, x.mark(0, 0, v), 1);
        sheetIs(x, 0, want);
    }

    private static void floatIs(int v, int want) {
        RoadsCrossed x = withRow(FLOATS, 1);
        due("mark of " + v, x.mark(0, 0, v), 1);
        sheetIs(x, 0, want);
    }

    /** How many posts come from a row of shorts or floats to a new object. */
    private static void poured(int want, int sort, int... values) {
        RoadsCrossed x = withRow(sort, values);
        due("pour of " + java.util.Arrays.toString(values), x.pour(0), want);
        due("posts", x.count(0), want);
        for (int post = 0; post < want; post++) {
            due("x", x.postTold(post, 0), values[post] / 100);
            due("y", x.postTold(post, 1), values[post] % 100);
        }
    }

    // ---- Terms

    @Of(terms = 5, sentence = "with 0 to 24 places, or MISSING (at first)")
    static void sheetsAreMissingAtFirst() {
        for (int sheet = 0; sheet <= 3; sheet++) {
            int s = sheet;
            refused("mark", () -> empty(), x -> x.mark(s, 0, 0), NOTHING);
            refused("pour", () -> empty(), x -> x.pour(s), NOTHING);
            refused("line", () -> empty(), x -> x.line(s), NOTHING);
            refused("copy", () -> empty(), x -> x.copy(s, 0, s, 0, 0), NOTHING);
            refused("lay", () -> empty(), x -> x.lay(0, 2, s), NOTHING);
        }
    }

    @Of(terms = 5, sentence = "SHEETS 0 .. 3 are rows of shorts (sort 0) or floats (1; whole numbers)")
    static void sheetsFrom0To3OfEachSort() {
        for (int sheet = 0; sheet <= 3; sheet++) {
            RoadsCrossed x = rows();
            due("shorts", x.sheet(sheet, 0, 2), 2);
            x.mark(sheet, 1, 65535);
            sheetIs(x, sheet, 0, -1);
            due("floats", x.sheet(sheet, 1, 2), 2);
            x.mark(sheet, 1, 65535);
            sheetIs(x, sheet, 0, 65535);
        }
        for (int v : new int[] {-99999, -65537, -1, 0, 1, 65537, 99998}) {
            floatIs(v, v);
        }
        refused("no sheet 4", () -> rows(), x -> x.sheet(4, 0, 2), BAD);
        refused("no sort 2", () -> rows(), x -> x.sheet(0, 2, 2), BAD);
    }

    @Of(terms = 5, sentence = "A place of floats may be NO NUMBER.")
    static void aPlaceOfFloatsMayBeNoNumber() {
        RoadsCrossed x = full();
        for (int place = 0; place < 24; place++) {
            due("mark", x.mark(3, place, NONE), 1);
        }
        x.lay(0, 2, 3);
        for (int place = 0; place < 24; place++) {
            due("item", x.item(0, place), KIND);
        }
        due("none is poured", x.pour(3), 0);
        due("0 again", x.mark(3, 0, 0), 1);
        x.lay(0, 2, 3);
        due("0 is a number", x.item(0, 0), 0);
        due("its neighbour is none", x.item(0, 1), KIND);
        refused("a place of shorts may not", () -> full(), y -> y.mark(2, 0, NONE), KIND);
    }

    @Of(terms = 5, sentence = "INDEX: there is no such place; SIZE: a number of places is below 0; KIND: it is none (of a KIND, a number, or another thing).")
    static void findingsOfSheets() {
        refused("INDEX of a row without places: mark", () -> rich(), x -> x.mark(3, 0, 0), INDEX);
        refused("INDEX of a row without places: copy", () -> rich(), x -> x.copy(3, 0, 3, 0, 1), INDEX);
        refused("INDEX of a row without places: item", () -> {
            RoadsCrossed x = rich();
            x.lay(0, 2, 3);
            return x;
        }, x -> x.item(0, 0), INDEX);
        refused("SIZE: sheet", () -> rich(), x -> x.sheet(3, SHORTS, -1), SIZE);
        refused("KIND, no number: item", () -> rich(), x -> x.item(2, 1), KIND);
        refused("KIND, no number: mark", () -> rich(), x -> x.mark(0, 0, NONE), KIND);
        refused("KIND, another thing: copy", () -> rich(), x -> x.copy(0, 0, 1, 0, 1), KIND);
        refused("KIND, another thing: item", () -> rich(), x -> x.item(3, 0), KIND);
        refused("KIND, none of a KIND: as", () -> rich(), x -> x.as(1, 1), KIND);
        refused("KIND, none of a KIND: ask", () -> rich(), x -> x.ask(1, 1), KIND);
    }

    // ---- promise 32

    @Of(promise = 32, sentence = "BAD: sheet, sort, n above 24; SIZE.")
    static void sheetRefusesASheetThatIsNone() {
        for (int sheet : outside(0, 3)) {
            refused("sheet(" + sheet + ", 0, 1)", () -> rows(), x -> x.sheet(sheet, SHORTS, 1), BAD);
            refused("sheet(" + sheet + ", -1, 0)", () -> rows(), x -> x.sheet(sheet, -1, 0), BAD);
        }
    }

    @Of(promise = 32, sentence = "BAD: sheet, sort, n above 24; SIZE.")
    static void sheetRefusesASortThatIsNone() {
        for (int sort : outside(-1, 1)) {
            refused("sheet(0, " + sort + ", 1)", () -> rows(), x -> x.sheet(0, sort, 1), BAD);
        }
    }

    @Of(promise = 32, sentence = "n above 24")
    static void sheetRefusesMoreThan24Places() {
        for (int sort = 0; sort <= 1; sort++) {
            int s = sort;
            refused("25", () -> rows(), x -> x.sheet(0, s, 25), BAD);
            refused("the greatest int", () -> rows(), x -> x.sheet(2, s, MOST), BAD);
        }
    }

    @Of(promise = 32, sentence = "SIZE.")
    static void sheetRefusesFewerThan0Places() {
        for (int sort = 0; sort <= 1; sort++) {
            int s = sort;
            refused("-1", () -> rows(), x -> x.sheet(0, s, -1), SIZE);
            refused("the least int", () -> rows(), x -> x.sheet(2, s, LEAST), SIZE);
        }
    }

    @Of(promise = 32, sentence = "BAD: sheet, sort, n above 24; SIZE.")
    static void sheetRefusesInThisOrder() {
        refused("sheet ahead of SIZE", () -> rows(), x -> x.sheet(4, SHORTS, -1), BAD);
        refused("sort ahead of SIZE", () -> rows(), x -> x.sheet(0, 2, -1), BAD);
        refused("sort ahead of SIZE", () -> rows(), x -> x.sheet(0, -2, -1), BAD);
    }

    @Of(promise = 32, sentence = "(sort -1: MISSING, n any): n (sort -1: 0)")
    static void sheetBecomesMissingWithAnyN() {
        for (int n : new int[] {LEAST, -1, 0, 24, 25, MOST}) {
            RoadsCrossed x = rows();
            due("sheet(0, -1, " + n + ")", x.sheet(0, -1, n), 0);
            due("it is missing", x.mark(0, 0, 0), NOTHING);
            due("again", x.sheet(0, -1, n), 0);
        }
        tellsOnly("one that is missing", () -> rows(), x -> x.sheet(2, -1, 7), 0);
    }

    @Of(promise = 32, sentence = "A SHEET becomes a row of n places of a sort, all 0")
    static void sheetOf0AndOf24Places() {
        for (int sort = 0; sort <= 1; sort++) {
            RoadsCrossed x = rows();
            due("24", x.sheet(3, sort, 24), 24);
            sheetIs(x, 3, new int[24]);
            due("0", x.sheet(3, sort, 0), 0);
            sheetIs(x, 3);
        }
    }

    @Of(promise = 32, sentence = "A SHEET becomes a row of n places of a sort, all 0")
    static void sheetIsAll0WhateverItWas() {
        RoadsCrossed x = full();
        due("shorts again", x.sheet(0, SHORTS, 24), 24);
        sheetIs(x, 0, new int[24]);
        due("floats with NO NUMBER become shorts", x.sheet(1, SHORTS, 24), 24);
        sheetIs(x, 1, new int[24]);
        x.mark(2, 5, 5);
        x.sheet(2, SHORTS, 3);
        due("fewer, then more again", x.sheet(2, SHORTS, 24), 24);
        sheetIs(x, 2, new int[24]);
        x.sheet(3, -1, 0);
        due("missing, then a row again", x.sheet(3, FLOATS, 24), 24);
        sheetIs(x, 3, new int[24]);
    }

    // ---- promise 33

    @Of(promise = 33, sentence = "BAD: sheet; NOTHING; INDEX; KIND: NONE in a row of shorts; BAD: v of floats.")
    static void markRefusesASheetThatIsNone() {
        for (int sheet : outside(0, 3)) {
            refused("mark(" + sheet + ", 0, 1)", () -> rows(), x -> x.mark(sheet, 0, 1), BAD);
        }
    }

    @Of(promise = 33, sentence = "NOTHING;")
    static void markRefusesAMissingSheet() {
        refused("mark(2, 0, 1)", () -> rows(), x -> x.mark(2, 0, 1), NOTHING);
    }

    @Of(promise = 33, sentence = "INDEX;")
    static void markRefusesAPlaceThatIsNone() {
        for (int place : outside(0, 4)) {
            refused("shorts, place " + place, () -> rows(), x -> x.mark(0, place, 1), INDEX);
        }
        for (int place : outside(0, 2)) {
            refused("floats, place " + place, () -> rows(), x -> x.mark(1, place, 1), INDEX);
        }
        refused("place 24 of 24", () -> full(), x -> x.mark(0, 24, 1), INDEX);
        refused("place 0 of none", () -> rich(), x -> x.mark(3, 0, 1), INDEX);
    }

    @Of(promise = 33, sentence = "KIND: NONE in a row of shorts")
    static void markRefusesNoneInShorts() {
        refused("the first", () -> rows(), x -> x.mark(0, 0, NONE), KIND);
        refused("the last", () -> rows(), x -> x.mark(0, 4, NONE), KIND);
    }

    @Of(promise = 33, sentence = "BAD: v of floats.")
    static void markRefusesAFloatOutside() {
        for (int v : new int[] {LEAST, BAD, NO, FULL, NOTHING, KIND, INDEX, SIZE, -100000, 100000, MOST}) {
            refused("mark(1, 0, " + v + ")", () -> rows(), x -> x.mark(1, 0, v), BAD);
            refused("mark(1, 1, " + v + "), NO NUMBER till now", () -> rows(), x -> x.mark(1, 1, v), BAD);
        }
    }

    @Of(promise = 33, sentence = "BAD: sheet; NOTHING; INDEX; KIND: NONE in a row of shorts; BAD: v of floats.")
    static void markRefusesInThisOrder() {
        refused("BAD ahead of INDEX", () -> rows(), x -> x.mark(4, -1, NONE), BAD);
        refused("NOTHING ahead of INDEX", () -> rows(), x -> x.mark(2, -1, NONE), NOTHING);
        refused("INDEX ahead of KIND", () -> rows(), x -> x.mark(0, 5, NONE), INDEX);
        refused("INDEX ahead of BAD", () -> rows(), x -> x.mark(1, 3, 100000), INDEX);
    }

    @Of(promise = 33, sentence = "of shorts its lowest 16 bits")
    static void markOfShortsWraps() {
        shortIs(32767, 32767);
        shortIs(32768, -32768);
        shortIs(-32768, -32768);
        shortIs(-32769, 32767);
        shortIs(65535, -1);
        shortIs(65536, 0);
        shortIs(65537, 1);
        shortIs(LEAST, 0);
        shortIs(MOST, -1);
        shortIs(100000, 100000 - 131072);
        shortIs(BAD, (short) -1000000001);
        shortIs(NONE + 1, (short) -1000000004);
    }

    @Of(promise = 33, sentence = "of floats v, -99999 .. 99999; NONE: NO NUMBER): 1.")
    static void markOfFloatsAtTheEnds() {
        floatIs(99999, 99999);
        floatIs(-99999, -99999);
        floatIs(0, 0);
        floatIs(-1, -1);
        floatIs(NONE, KIND);
        RoadsCrossed x = rows();
        due("a number where there was none", x.mark(1, 1, 20), 1);
        sheetIs(x, 1, 10, 20, 30);
    }

    @Of(promise = 33, sentence = "A place of a SHEET becomes v")
    static void markTheFirstAndTheLastPlace() {
        RoadsCrossed x = rows();
        due("the first", x.mark(0, 0, 50), 1);
        due("the last", x.mark(0, 4, 60), 1);
        sheetIs(x, 0, 50, 2, 3, 4, 60);
        sheetIs(x, 3, 7, 8, 9);
        RoadsCrossed y = full();
        due("the last of 24", y.mark(1, 23, -1), 1);
        y.lay(0, 2, 1);
        due("it", y.item(0, 23), -1);
    }

    // ---- promise 34

    @Of(promise = 34, sentence = "BAD; NOTHING.")
    static void pourRefusesASheetThatIsNone() {
        for (int sheet : outside(0, 3)) {
            refused("pour(" + sheet + ")", () -> rows(), x -> x.pour(sheet), BAD);
        }
    }

    @Of(promise = 34, sentence = "NOTHING.")
    static void pourRefusesAMissingSheet() {
        refused("pour(2)", () -> rows(), x -> x.pour(2), NOTHING);
        refused("pour(2), though 8 posts are there", () -> {
            RoadsCrossed x = full();
            x.sheet(2, -1, 0);
            return x;
        }, x -> x.pour(2), NOTHING);
    }

    @Of(promise = 34, sentence = "up to the first that is NO NUMBER or can not be one more POST: how many came")
    static void pourUpToTheFirstThatIsNoNumber() {
        poured(0, FLOATS, NONE, 5);
        poured(1, FLOATS, 5, NONE, 6);
        poured(2, FLOATS, 5, 6, NONE);
    }

    @Of(promise = 34, sentence = "up to the first that is NO NUMBER or can not be one more POST: how many came")
    static void pourUpToTheFirstThatIsNoPlace() {
        poured(0, SHORTS, -1, 5);
        poured(0, SHORTS, -100, 5);
        poured(0, SHORTS, -32768, 5);
        poured(1, SHORTS, 9999, 10000, 5);
        poured(0, SHORTS, 10000, 5);
        poured(0, SHORTS, 32767);
        poured(0, FLOATS, 99999, 5);
        poured(0, FLOATS, -99999, 5);
        poured(1, FLOATS, 5, -1, 6);
    }

    @Of(promise = 34, sentence = "up to the first that is NO NUMBER or can not be one more POST: how many came")
    static void pourUpToTheFirstWhosePlaceIsTaken() {
        poured(1, SHORTS, 5, 5, 6);
        poured(1, SHORTS, 0, 0, 0);
        tellsOnly("by a post that was there", () -> {
            RoadsCrossed x = rich();
            row(x, 2, SHORTS, 9999, 1);
            return x;
        }, x -> x.pour(2), 0);
    }

    @Of(promise = 34, sentence = "up to the first that is NO NUMBER or can not be one more POST: how many came")
    static void pourUpToTheEighthPost() {
        poured(8, SHORTS, 0, 1, 2, 3, 4, 5, 6, 7, 8, 9);
        tellsOnly("8 are there", () -> full(), x -> x.pour(0), 0);
        RoadsCrossed x = rich();
        row(x, 2, FLOATS, 1, 2, 3);
        due("6 are there", x.pour(2), 2);
        due("posts", x.count(0), 8);
    }

    @Of(promise = 34, sentence = "POSTS come from a SHEET, place by place from 0 on")
    static void pourOfTheFirstPlaceFirst() {
        RoadsCrossed x = rich();
        row(x, 2, SHORTS, 9900, 99, 7);
        due("there is room for two", x.pour(2), 2);
        due("post 6: x", x.postTold(6, 0), 99);
        due("post 6: y", x.postTold(6, 1), 0);
        due("post 7: x", x.postTold(7, 0), 0);
        due("post 7: y", x.postTold(7, 1), 99);
        due("post 6 comes behind all", x.postTold(6, 3), 6);
        due("post 7 comes behind it", x.postTold(7, 3), 7);
        due("again, all are there", x.pour(2), 0);
        sheetIs(x, 2, 9900, 99, 7);
    }

    @Of(promise = 34, sentence = "(100 times x, and y)")
    static void pourOfNoPlacesAndOfCorners() {
        tellsOnly("no places", () -> rich(), x -> x.pour(3), 0);
        poured(0, FLOATS);
        poured(4, SHORTS, 0, 99, 9900, 9999);
        poured(3, FLOATS, 9999, 100, 1);
    }

    // ---- promise 35

    @Of(promise = 35, sentence = "BAD; NOTHING; KIND: they are not of one sort; INDEX")
    static void copyRefusesASheetThatIsNone() {
        for (int sheet : outside(0, 3)) {
            refused("from " + sheet, () -> rows(), x -> x.copy(sheet, 0, 0, 0, 1), BAD);
            refused("to " + sheet, () -> rows(), x -> x.copy(0, 0, sheet, 0, 1), BAD);
        }
    }

    @Of(promise = 35, sentence = "NOTHING;")
    static void copyRefusesAMissingSheet() {
        refused("from", () -> rows(), x -> x.copy(2, 0, 0, 0, 1), NOTHING);
        refused("to", () -> rows(), x -> x.copy(0, 0, 2, 0, 1), NOTHING);
        refused("both", () -> rows(), x -> x.copy(2, 0, 2, 0, 0), NOTHING);
    }

    @Of(promise = 35, sentence = "KIND: they are not of one sort")
    static void copyRefusesAnotherSort() {
        refused("shorts to floats", () -> rows(), x -> x.copy(0, 0, 1, 0, 1), KIND);
        refused("floats to shorts", () -> rows(), x -> x.copy(1, 0, 0, 0, 1), KIND);
        refused("of 0 places", () -> rows(), x -> x.copy(1, 0, 0, 0, 0), KIND);
    }

    @Of(promise = 35, sentence = "INDEX (of 0 places, too; a number below 0, too)")
    static void copyRefusesPlacesThatAreNone() {
        refused("one behind the last", () -> rows(), x -> x.copy(0, 5, 3, 0, 1), INDEX);
        refused("one of them behind the last", () -> rows(), x -> x.copy(0, 3, 3, 0, 3), INDEX);
        refused("to behind the last", () -> rows(), x -> x.copy(0, 0, 3, 3, 1), INDEX);
        refused("one of them to behind the last", () -> rows(), x -> x.copy(0, 0, 3, 1, 3), INDEX);
        refused("more than there are", () -> rows(), x -> x.copy(0, 0, 0, 0, 6), INDEX);
        refused("25 of 24", () -> full(), x -> x.copy(0, 0, 2, 0, 25), INDEX);
        refused("of a row without places", () -> rich(), x -> x.copy(3, 0, 0, 0, 1), INDEX);
        refused("to a row without places", () -> rich(), x -> x.copy(0, 0, 3, 0, 1), INDEX);
    }

    @Of(promise = 35, sentence = "a number below 0, too")
    static void copyRefusesNumbersBelow0() {
        for (int v : new int[] {-1, LEAST}) {
            refused("from place " + v, () -> rows(), x -> x.copy(0, v, 3, 0, 1), INDEX);
            refused("to place " + v, () -> rows(), x -> x.copy(0, 0, 3, v, 1), INDEX);
            refused("many " + v, () -> rows(), x -> x.copy(0, 1, 3, 1, v), INDEX);
            refused("all " + v, () -> rows(), x -> x.copy(0, v, 3, v, v), INDEX);
        }
    }

    @Of(promise = 35, sentence = "INDEX (of 0 places, too; a number below 0, too)")
    static void copyRefusesSumsThatWrap() {
        refused("from the greatest int", () -> rows(), x -> x.copy(0, MOST, 3, 0, 1), INDEX);
        refused("to the greatest int", () -> rows(), x -> x.copy(0, 0, 3, MOST, 1), INDEX);
        refused("as many as the greatest int", () -> rows(), x -> x.copy(0, 1, 3, 1, MOST), INDEX);
        refused("all the greatest int", () -> rows(), x -> x.copy(0, MOST, 3, MOST, MOST), INDEX);
    }

    @Of(promise = 35, sentence = "INDEX (of 0 places, too; a number below 0, too)")
    static void copyRefuses0PlacesWhereNoneAre() {
        refused("from behind the end", () -> rows(), x -> x.copy(0, 6, 3, 0, 0), INDEX);
        refused("to behind the end", () -> rows(), x -> x.copy(0, 0, 3, 4, 0), INDEX);
        refused("from -1", () -> rows(), x -> x.copy(0, -1, 3, 0, 0), INDEX);
        refused("to -1", () -> rows(), x -> x.copy(0, 0, 3, -1, 0), INDEX);
        refused("from the greatest int", () -> rows(), x -> x.copy(0, MOST, 3, 0, 0), INDEX);
        tellsOnly("from a place, to a place", () -> rows(), x -> x.copy(0, 4, 3, 2, 0), 0);
        // 0 places from the end on reach no place that there is not.
        tellsOnly("from the end, to the end", () -> rows(), x -> x.copy(0, 5, 3, 3, 0), 0);
    }

    @Of(promise = 35, sentence = "BAD; NOTHING; KIND: they are not of one sort; INDEX (of 0 places, too; a number below 0, too).")
    static void copyRefusesInThisOrder() {
        refused("BAD ahead of NOTHING", () -> rows(), x -> x.copy(4, 0, 2, 0, 1), BAD);
        refused("BAD of the second ahead of NOTHING of the first", () -> rows(), x -> x.copy(2, 0, 4, 0, 1), BAD);
        refused("BAD ahead of INDEX", () -> rows(), x -> x.copy(0, -1, -1, -1, -1), BAD);
        refused("NOTHING ahead of INDEX", () -> rows(), x -> x.copy(0, -1, 2, -1, -1), NOTHING);
        refused("NOTHING ahead of INDEX", () -> rows(), x -> x.copy(2, -1, 0, -1, -1), NOTHING);
        refused("KIND ahead of INDEX", () -> rows(), x -> x.copy(0, 99, 1, -1, -1), KIND);
    }

    @Of(promise = 35, sentence = "(From a SHEET, its place, to a SHEET, its place.)")
    static void copyFromAPlaceToAPlace() {
        RoadsCrossed x = rows();
        due("copy(0, 4, 3, 0, 1)", x.copy(0, 4, 3, 0, 1), 1);
        sheetIs(x, 3, 5, 8, 9);
        due("copy(3, 1, 0, 3, 2)", x.copy(3, 1, 0, 3, 2), 2);
        sheetIs(x, 0, 1, 2, 3, 8, 9);
        sheetIs(x, 3, 5, 8, 9);
        refused("copy(3, 3, 0, 1, 2): sheet 3 has no place 3", () -> rows(), y -> y.copy(3, 3, 0, 1, 2), INDEX);
        refused("copy(0, 1, 3, 3, 2): the other way round", () -> rows(), y -> y.copy(0, 1, 3, 3, 2), INDEX);
    }

    @Of(promise = 35, sentence = "So many places of a SHEET come to another one (or the same), as they were: many.")
    static void copyWithinOneSheet() {
        RoadsCrossed x = rows();
        due("one place on", x.copy(0, 0, 0, 1, 4), 4);
        sheetIs(x, 0, 1, 1, 2, 3, 4);
        RoadsCrossed y = rows();
        due("one place back", y.copy(0, 1, 0, 0, 4), 4);
        sheetIs(y, 0, 2, 3, 4, 5, 5);
        tellsOnly("all to where they are", () -> rows(), z -> z.copy(0, 0, 0, 0, 5), 5);
    }

    @Of(promise = 35, sentence = "So many places of a SHEET come to another one (or the same), as they were: many.")
    static void copyOfTheMost() {
        RoadsCrossed x = rows();
        due("all of a sheet", x.copy(3, 0, 0, 2, 3), 3);
        sheetIs(x, 0, 1, 2, 7, 8, 9);
        sheetIs(x, 3, 7, 8, 9);
        RoadsCrossed y = full();
        due("24 floats", y.copy(1, 0, 3, 0, 24), 24);
        y.lay(0, 2, 3);
        due("the first: NO NUMBER", y.item(0, 0), KIND);
        due("the last", y.item(0, 23), 6);
        due("the last place alone", y.copy(3, 0, 3, 23, 1), 1);
        y.lay(0, 2, 3);
        due("NO NUMBER", y.item(0, 23), KIND);
    }
}

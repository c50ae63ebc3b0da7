import java.util.function.Supplier;

/** Boundary cases of promises 36 to 39, and of what Terms say of slots: each test names its sentence. */
public final class BoundariesOfSlots extends Boundaries {
    public static void main(String[] args) {
        run(BoundariesOfSlots.class, 36, 39);
    }

    /** A new object whose slot 4 holds a number. */
    private static Supplier<RoadsCrossed> holding(int number) {
        return () -> {
            RoadsCrossed x = empty();
            x.lay(4, 3, number);
            return x;
        };
    }

    // ---- Terms

    @Of(terms = 5, sentence = "a ROAD (as it is then, for good)")
    static void aRoadInASlotStaysAsItWas() {
        RoadsCrossed x = rich();
        x.lay(0, 1, 2);
        due("a TOLL of weight 9", x.ask(0, 3), -3);
        x.set(2, 0, 1);
        due("its weight changes", x.ask(0, 3), -3);
        x.turns(2, 5);
        due("it becomes a BRIDGE", x.ask(0, 3), -3);
        due("not in the slot", x.ask(0, 5), KIND);
        x.drop(2);
        due("it goes", x.ask(0, 3), -3);
        x.back();
        due("behind an image", x.ask(0, 3), -3);
    }

    @Of(terms = 5, sentence = "a SHEET (a row of its own, as it was then)")
    static void aSheetInASlotStaysAsItWas() {
        RoadsCrossed x = rich();
        x.mark(1, 0, 6);
        due("a place changes", x.item(2, 0), 5);
        x.mark(1, 1, 7);
        due("NO NUMBER becomes one", x.item(2, 1), KIND);
        x.sheet(1, SHORTS, 24);
        due("it becomes another row", x.item(2, 3), INDEX);
        x.sheet(1, -1, 0);
        due("it becomes missing", x.item(2, 2), -99999);
        x.lay(0, 2, 0);
        x.lay(1, 2, 0);
        x.mark(0, 0, 77);
        x.lay(1, 2, 0);
        due("two slots with one sheet: as it was first", x.item(0, 0), 5);
        due("and as it is now", x.item(1, 0), 77);
    }

    @Of(terms = 5, sentence = "FINDINGS: NOTHING: a SHEET is MISSING, a SLOT holds nothing")
    static void slotsHoldNothingAtFirst() {
        for (int slot = 0; slot <= 4; slot++) {
            int s = slot;
            refused("ask", () -> empty(), x -> x.ask(s, 0), NOTHING);
            refused("item", () -> empty(), x -> x.item(s, 0), NOTHING);
            refused("rest", () -> empty(), x -> x.rest(s, 1), NOTHING);
        }
    }

    @Of(terms = 5, sentence = "SLOTS 0 .. 4 each hold nothing (at first)")
    static void slotsFrom0To4EachHoldTheirOwn() {
        RoadsCrossed x = crossedSquare();
        for (int slot = 0; slot <= 4; slot++) {
            due("slot " + slot + " held nothing", x.lay(slot, 3, 100 + slot), 0);
        }
        for (int slot = 0; slot <= 4; slot++) {
            due("slot " + slot, x.rest(slot, 1000), 100 + slot);
        }
        due("slot 2 becomes a road", x.lay(2, 1, 1), 3);
        due("slot 1 as it was", x.rest(1, 1000), 101);
        due("slot 3 as it was", x.rest(3, 1000), 103);
        due("no slot 5", x.lay(5, 3, 1), BAD);
        due("no slot -1", x.lay(-1, 3, 1), BAD);
    }

    @Of(terms = 5, sentence = "or a number")
    static void aNumberInASlotIsAnyInt() {
        for (int v : new int[] {LEAST, -1, 0, 1, MOST, BAD, NOTHING, KIND}) {
            RoadsCrossed x = holding(v).get();
            due("what " + v + " leaves by 65536", x.rest(4, 65536), v % 65536);
            due("what " + v + " leaves by -65535", x.rest(4, -65535), v % 65535);
            due(v + " is no road", x.ask(4, 0), KIND);
            due(v + " is no sheet", x.item(4, 0), KIND);
            due(v + " was a number", x.lay(4, 0, 0), 3);
        }
    }

    // ---- promise 36

    @Of(promise = 36, sentence = "BAD: slot, thing, k")
    static void layRefusesASlotThatIsNone() {
        for (int slot : outside(0, 4)) {
            for (int thing = 0; thing <= 3; thing++) {
                int t = thing;
                refused("lay(" + slot + ", " + t + ", 0)", () -> rich(), x -> x.lay(slot, t, 0), BAD);
            }
        }
    }

    @Of(promise = 36, sentence = "BAD: slot, thing, k")
    static void layRefusesAThingThatIsNone() {
        for (int thing : outside(0, 3)) {
            refused("lay(0, " + thing + ", 0)", () -> rich(), x -> x.lay(0, thing, 0), BAD);
            refused("lay(1, " + thing + ", 0)", () -> rich(), x -> x.lay(1, thing, 0), BAD);
        }
    }

    @Of(promise = 36, sentence = "BAD: slot, thing, k")
    static void layRefusesARoadOrASheetThatIsNone() {
        for (int k : outside(0, 3)) {
            refused("road " + k + " of 4", () -> rich(), x -> x.lay(1, 1, k), BAD);
            refused("sheet " + k, () -> rich(), x -> x.lay(2, 2, k), BAD);
        }
        refused("road 18 of 18", () -> full(), x -> x.lay(2, 1, 18), BAD);
        refused("road 0 of none", () -> empty(), x -> x.lay(0, 1, 0), BAD);
    }

    @Of(promise = 36, sentence = "NOTHING: that SHEET is MISSING")
    static void layRefusesAMissingSheet() {
        for (int slot = 0; slot <= 4; slot++) {
            int s = slot;
            refused("lay(" + s + ", 2, 2)", () -> rich(), x -> x.lay(s, 2, 2), NOTHING);
        }
    }

    @Of(promise = 36, sentence = "BAD: slot, thing, k; NOTHING: that SHEET is MISSING.")
    static void layRefusesInThisOrder() {
        refused("slot ahead of NOTHING", () -> rich(), x -> x.lay(5, 2, 2), BAD);
        refused("slot ahead of NOTHING", () -> empty(), x -> x.lay(-1, 2, 0), BAD);
        refused("k ahead of NOTHING", () -> empty(), x -> x.lay(0, 2, 4), BAD);
    }

    @Of(promise = 36, sentence = "A SLOT holds: thing 0 nothing, 1 ROAD k, 2 SHEET k, 3 the number k: what it held (0 .. 3).")
    static void layTellsWhatASlotHeld() {
        RoadsCrossed x = full();
        due("it held a road", x.lay(0, 2, 3), 1);
        due("it held a sheet", x.lay(0, 3, LEAST), 2);
        due("it held a number", x.lay(0, 1, 17), 3);
        due("it held a road", x.lay(0, 0, 0), 1);
        due("it held nothing", x.lay(0, 0, 0), 0);
        due("NOTHING", x.ask(0, 0), NOTHING);
        tellsOnly("nothing again", () -> rich(), y -> y.lay(0, 0, 0), 0);
    }

    @Of(promise = 36, sentence = "A SLOT holds: thing 0 nothing, 1 ROAD k, 2 SHEET k, 3 the number k: what it held (0 .. 3).")
    static void layOfNothingAndOfNumbersTakesAnyK() {
        for (int k : new int[] {LEAST, -1, 4, 18, MOST, BAD, NONE}) {
            RoadsCrossed x = rich();
            due("nothing, " + k, x.lay(1, 0, k), 1);
            due("it holds nothing", x.rest(1, 1), NOTHING);
            due("the number " + k, x.lay(4, 3, k), 2);
            due("it", x.rest(4, 1 << 30), k % (1 << 30));
        }
    }

    @Of(promise = 36, sentence = "2 SHEET k")
    static void layOfASheetWithoutPlacesAndOfTheMost() {
        RoadsCrossed x = rich();
        due("without places", x.lay(2, 2, 3), 2);
        due("place 0", x.item(2, 0), INDEX);
        RoadsCrossed y = full();
        due("24 places", y.lay(2, 2, 3), 3);
        due("the last", y.item(2, 23), 8);
        due("behind it", y.item(2, 24), INDEX);
    }

    // ---- promise 37

    @Of(promise = 37, sentence = "BAD; NOTHING; KIND: it is no ROAD, or not of that KIND, nor of one under it.")
    static void askRefusesASlotOrAKindThatIsNone() {
        for (int slot : outside(0, 4)) {
            refused("ask(" + slot + ", 0)", () -> rich(), x -> x.ask(slot, 0), BAD);
        }
        for (int kind : outside(0, 5)) {
            refused("ask(1, " + kind + ")", () -> rich(), x -> x.ask(1, kind), BAD);
        }
    }

    @Of(promise = 37, sentence = "NOTHING;")
    static void askRefusesASlotThatHoldsNothing() {
        refused("ask(0, 0)", () -> rich(), x -> x.ask(0, 0), NOTHING);
        refused("ask(0, 5)", () -> rich(), x -> x.ask(0, 5), NOTHING);
    }

    @Of(promise = 37, sentence = "KIND: it is no ROAD")
    static void askRefusesWhatIsNoRoad() {
        refused("floats", () -> rich(), x -> x.ask(2, 0), KIND);
        refused("a number", () -> rich(), x -> x.ask(3, 0), KIND);
        refused("shorts", () -> rich(), x -> x.ask(4, 0), KIND);
    }

    @Of(promise = 37, sentence = "WORTH (by its own KIND) of the ROAD in a SLOT, taken for one of a KIND (0 .. 5).")
    static void askOfEachKindForEachKind() {
        boolean[][] isUnder = {
            {true, false, false, false, false, false},
            {true, true, false, false, false, false},
            {true, false, true, false, false, false},
            {true, true, false, true, false, false},
            {true, false, true, false, true, false},
            {true, false, false, false, false, true}};
        int[] worths = {1, 6, 0, -3, 0, 20};
        for (int is = 0; is <= 5; is++) {
            RoadsCrossed x = crossedSquare();
            x.set(0, 0, 9);
            x.turns(0, is);
            x.lay(0, 1, 0);
            for (int kind = 0; kind <= 5; kind++) {
                due("one of " + is + " for one of " + kind, x.ask(0, kind), isUnder[is][kind] ? worths[is] : KIND);
            }
        }
    }

    @Of(promise = 37, sentence = "BAD; NOTHING; KIND: it is no ROAD, or not of that KIND, nor of one under it.")
    static void askRefusesInThisOrder() {
        refused("kind ahead of NOTHING", () -> rich(), x -> x.ask(0, 6), BAD);
        refused("kind ahead of KIND", () -> rich(), x -> x.ask(3, -1), BAD);
    }

    // ---- promise 38

    @Of(promise = 38, sentence = "BAD: slot;")
    static void itemRefusesASlotThatIsNone() {
        for (int slot : outside(0, 4)) {
            refused("item(" + slot + ", 0)", () -> rich(), x -> x.item(slot, 0), BAD);
        }
    }

    @Of(promise = 38, sentence = "NOTHING;")
    static void itemRefusesASlotThatHoldsNothing() {
        refused("item(0, 0)", () -> rich(), x -> x.item(0, 0), NOTHING);
    }

    @Of(promise = 38, sentence = "KIND: it is no SHEET")
    static void itemRefusesWhatIsNoSheet() {
        refused("a road", () -> rich(), x -> x.item(1, 0), KIND);
        refused("a number", () -> rich(), x -> x.item(3, 0), KIND);
        refused("a number where a sheet was", () -> {
            RoadsCrossed x = rich();
            x.lay(2, 3, 5);
            return x;
        }, x -> x.item(2, 0), KIND);
    }

    @Of(promise = 38, sentence = "INDEX;")
    static void itemRefusesAPlaceThatIsNone() {
        for (int place : outside(0, 2)) {
            refused("floats, place " + place, () -> rich(), x -> x.item(2, place), INDEX);
        }
        for (int place : outside(0, 5)) {
            refused("shorts, place " + place, () -> rich(), x -> x.item(4, place), INDEX);
        }
        refused("24 of 24", () -> full(), x -> x.item(1, 24), INDEX);
    }

    @Of(promise = 38, sentence = "KIND: NO NUMBER.")
    static void itemTellsThatAPlaceIsNoNumber() {
        refused("place 1", () -> rich(), x -> x.item(2, 1), KIND);
        refused("the first of 24", () -> full(), x -> x.item(4, 0), KIND);
    }

    @Of(promise = 38, sentence = "BAD: slot; NOTHING; KIND: it is no SHEET; INDEX; KIND: NO NUMBER.")
    static void itemRefusesInThisOrder() {
        refused("BAD ahead of INDEX", () -> rich(), x -> x.item(5, -1), BAD);
        refused("NOTHING ahead of INDEX", () -> rich(), x -> x.item(0, -1), NOTHING);
        refused("KIND ahead of INDEX", () -> rich(), x -> x.item(1, -1), KIND);
        refused("KIND ahead of INDEX", () -> rich(), x -> x.item(3, MOST), KIND);
    }

    @Of(promise = 38, sentence = "A place of the SHEET in a SLOT.")
    static void itemOfTheFirstAndTheLastPlace() {
        tellsOnly("the first float", () -> rich(), x -> x.item(2, 0), 5);
        tellsOnly("the last float", () -> rich(), x -> x.item(2, 2), -99999);
        tellsOnly("the last short", () -> rich(), x -> x.item(4, 5), 0);
        tellsOnly("the last of 24", () -> full(), x -> x.item(4, 23), 6);
    }

    // ---- promise 39

    @Of(promise = 39, sentence = "BAD: slot;")
    static void restRefusesASlotThatIsNone() {
        for (int slot : outside(0, 4)) {
            refused("rest(" + slot + ", 5)", () -> rich(), x -> x.rest(slot, 5), BAD);
        }
    }

    @Of(promise = 39, sentence = "NOTHING;")
    static void restRefusesASlotThatHoldsNothing() {
        refused("rest(0, 5)", () -> rich(), x -> x.rest(0, 5), NOTHING);
    }

    @Of(promise = 39, sentence = "KIND: it is no number")
    static void restRefusesWhatIsNoNumber() {
        refused("a road", () -> rich(), x -> x.rest(1, 5), KIND);
        refused("floats", () -> rich(), x -> x.rest(2, 5), KIND);
        refused("shorts", () -> rich(), x -> x.rest(4, 5), KIND);
    }

    @Of(promise = 39, sentence = "NO: n is 0.")
    static void restRefusesBy0() {
        refused("rest(3, 0)", () -> rich(), x -> x.rest(3, 0), NO);
        refused("0 by 0", holding(0), x -> x.rest(4, 0), NO);
    }

    @Of(promise = 39, sentence = "BAD: slot; NOTHING; KIND: it is no number; NO: n is 0.")
    static void restRefusesInThisOrder() {
        refused("BAD ahead of NO", () -> rich(), x -> x.rest(5, 0), BAD);
        refused("NOTHING ahead of NO", () -> rich(), x -> x.rest(0, 0), NOTHING);
        refused("KIND ahead of NO", () -> rich(), x -> x.rest(1, 0), KIND);
    }

    @Of(promise = 39, sentence = "The rest of the number in a SLOT by n.")
    static void restOfTheLeastAndTheGreatestInt() {
        tellsOnly("-17 by 5", () -> rich(), x -> x.rest(3, 5), -2);
        tellsOnly("-17 by -5", () -> rich(), x -> x.rest(3, -5), -2);
        tellsOnly("-17 by 17", () -> rich(), x -> x.rest(3, 17), 0);
        tellsOnly("-17 by the greatest int", () -> rich(), x -> x.rest(3, MOST), -17);
        tellsOnly("the least int by -1", holding(LEAST), x -> x.rest(4, -1), 0);
        tellsOnly("the least int by 1", holding(LEAST), x -> x.rest(4, 1), 0);
        tellsOnly("the least int by the greatest", holding(LEAST), x -> x.rest(4, MOST), -1);
        tellsOnly("the least int by itself", holding(LEAST), x -> x.rest(4, LEAST), 0);
        tellsOnly("the greatest int by the least", holding(MOST), x -> x.rest(4, LEAST), MOST);
        tellsOnly("0 by the least int", holding(0), x -> x.rest(4, LEAST), 0);
    }
}

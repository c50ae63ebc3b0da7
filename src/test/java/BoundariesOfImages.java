/** Boundary cases of promises 40 to 44, and of what Terms say of images and swaps that are told: each test names its sentence. */
public final class BoundariesOfImages extends Boundaries {
    public static void main(String[] args) {
        run(BoundariesOfImages.class, 40, 44);
    }

    /** A crossed square without an image, and numbers that wait. */
    private static RoadsCrossed withoutImage(int... waiting) {
        RoadsCrossed x = crossedSquare();
        tellAll(x, waiting);
        return x;
    }

    /** The rich state, but with these numbers that wait; 1, 0, -1, 0, -1, 0, .. are right. */
    private static RoadsCrossed waiting(int... numbers) {
        RoadsCrossed x = richWithoutWaiting();
        tellAll(x, numbers);
        return x;
    }

    /** The numbers that wait are used up, and nothing else changes. */
    private static void checked(int n, int want, int... numbers) {
        leaves("check(" + n + ") of " + java.util.Arrays.toString(numbers), () -> waiting(numbers), x -> x.check(n), want, () -> waiting());
    }

    /** What the rich state is behind its image. */
    private static RoadsCrossed richBack() {
        RoadsCrossed x = crossedSquare();
        x.keep();
        withSheetsSlotsAndTape(x);
        tellAll(x, 1, 0, -1, 0);
        return x;
    }

    // ---- Terms

    @Of(terms = 5, sentence = "AN IMAGE keeps all but SHEETS, SLOTS, numbers that wait, THE TAPE")
    static void anImageKeepsAllButSheetsSlotsNumbersAndTheTape() {
        leaves("back", () -> rich(), x -> x.back(), 2, () -> richBack());
    }

    @Of(terms = 5, sentence = "all can become as it is (again and again)")
    static void anImageServesAgainAndAgain() {
        leaves("back, changes, back", () -> rich(), x -> {
            x.back();
            x.drop(0);
            x.move(0, 50, 50);
            x.layer(2, 3);
            x.post(60, 60);
            x.seed(9);
            x.deal(0, 1);
            x.set(0, 1, 1);
            x.set(0, 0, 9);
            x.turns(0, 5);
            return x.back();
        }, 2, () -> richBack());
        leaves("back, swaps, back", () -> rich(), x -> x.back() + x.swaps(30) + x.back(), 5, () -> richBack());
    }

    @Of(terms = 5, sentence = "10 times a, and b (-1: there is none; nothing is done), and the COST of all ROADS that cross STRAIGHT behind it")
    static void swapsToldWhereThereIsNone() {
        checked(1, 0, 1, 0);
        checked(3, 0, 1, 0, -1, 0, -1, 0);
        RoadsCrossed x = crossedSquare();
        say(x, "swap 0");
        x.keep();
        say(x, "swap 1");
        tellAll(x, -1, 8, -1, 8);
        due("by the image's law none may be swapped", x.check(2), 0);
        x.keep();
        tellAll(x, 1, 0, -1, 0);
        due("by the new image's law", x.check(2), 0);
    }

    @Of(terms = 5, sentence = "THE SWAPS TOLD: n BEST SWAPS, one behind the other, by THE IMAGE")
    static void swapsToldByAnImageWithoutPosts() {
        RoadsCrossed x = empty();
        x.keep();
        x.deal(0, 8);
        x.deal(1, 20);
        tellAll(x, -1, 0);
        due("check(1)", x.check(1), 0);
        tellAll(x, -1, 1);
        due("another cost", x.check(1), 2);
        tellAll(x, 1, 0);
        due("a swap", x.check(1), 1);
    }

    // ---- promise 40

    @Of(promise = 40, sentence = "One more number waits: how many.")
    static void tellUpTo60OfAnyNumbers() {
        RoadsCrossed x = empty();
        int[] numbers = {LEAST, MOST, 0, -1, BAD, NONE};
        for (int many = 1; many <= 60; many++) {
            due("tell", x.tell(numbers[many % 6]), many);
        }
        due("one more", x.tell(0), FULL);
        due("count(3)", x.count(3), 60);
    }

    @Of(promise = 40, sentence = "FULL: 60 wait.")
    static void tellRefusesTheSixtyFirst() {
        for (int v : new int[] {LEAST, -1, 0, 5, MOST}) {
            refused("tell(" + v + ")", () -> full(), x -> x.tell(v), FULL);
        }
        RoadsCrossed x = full();
        due("check", x.check(30), 0);
        due("then one more waits", x.tell(5), 1);
    }

    // ---- promise 41

    @Of(promise = 41, sentence = "BAD;")
    static void checkRefusesANumberOutside() {
        for (int n : outside(1, 30)) {
            leaves("check(" + n + ")", () -> rich(), x -> x.check(n), BAD, () -> richWithoutWaiting());
        }
    }

    @Of(promise = 41, sentence = "NO: there is no IMAGE.")
    static void checkRefusesWithoutAnImage() {
        leaves("check(1)", () -> withoutImage(1, 0), x -> x.check(1), NO, () -> withoutImage());
        leaves("check(30)", () -> withoutImage(1), x -> x.check(30), NO, () -> withoutImage());
        refused("none wait", () -> withoutImage(), x -> x.check(1), NO);
    }

    @Of(promise = 41, sentence = "BAD; NO: there is no IMAGE.")
    static void checkRefusesInThisOrder() {
        leaves("check(0)", () -> withoutImage(1, 0), x -> x.check(0), BAD, () -> withoutImage());
        leaves("check(31)", () -> withoutImage(1, 0), x -> x.check(31), BAD, () -> withoutImage());
    }

    @Of(promise = 41, sentence = "The numbers that wait (none do then, whatever is answered)")
    static void checkUsesUpTheNumbersWhateverIsAnswered() {
        due("BAD", afterCheck(rich(), 0), 0);
        due("NO", afterCheck(withoutImage(1, 0, 3), 1), 0);
        due("0", afterCheck(rich(), 2), 0);
        due("a wrong one", afterCheck(waiting(7, 7, 7), 1), 0);
        due("60 of them", afterCheck(full(), 1), 0);
    }

    private static int afterCheck(RoadsCrossed x, int n) {
        x.check(n);
        return x.count(3);
    }

    @Of(promise = 41, sentence = "are THE SWAPS TOLD of n (1 .. 30), two by two: 0")
    static void checkOfTheLeastAndTheMost() {
        checked(1, 0, 1, 0);
        checked(2, 0, 1, 0, -1, 0);
        // Whatever check answers, what it leaves is the same.
        leaves("60 numbers", () -> full(), x -> x.check(30), 0, () -> {
            RoadsCrossed x = full();
            x.check(0);
            return x;
        });
    }

    @Of(promise = 41, sentence = "else 1 and how many stand right ahead of the first that is not")
    static void checkTellsTheFirstThatIsNot() {
        checked(2, 1, 2, 0, -1, 0);
        checked(2, 1, -1, 0, -1, 0);
        checked(2, 2, 1, 8, -1, 0);
        checked(2, 3, 1, 0, 1, 0);
        checked(2, 4, 1, 0, -1, LEAST);
        checked(1, 1, LEAST, MOST);
        checked(1, 2, 1, MOST);
        RoadsCrossed x = waiting(1, 0);
        for (int i = 1; i < 29; i++) {
            tellAll(x, -1, 0);
        }
        tellAll(x, -1, 1);
        due("the last of 60", x.check(30), 60);
    }

    @Of(promise = 41, sentence = "(or is missing, or one too many)")
    static void checkTellsTheFirstThatIsMissing() {
        checked(1, 1);
        checked(30, 1);
        checked(1, 2, 1);
        checked(2, 3, 1, 0);
        checked(2, 4, 1, 0, -1);
        checked(30, 5, 1, 0, -1, 0);
        RoadsCrossed x = waiting(1, 0);
        for (int i = 1; i < 29; i++) {
            tellAll(x, -1, 0);
        }
        x.tell(-1);
        due("the last of 60", x.check(30), 60);
    }

    @Of(promise = 41, sentence = "(or is missing, or one too many)")
    static void checkTellsTheFirstThatIsTooMany() {
        checked(1, 3, 1, 0, -1);
        checked(1, 3, 1, 0, -1, 0);
        checked(2, 5, 1, 0, -1, 0, -1, 0);
        due("59 of 60", full().check(29), 59);
        due("a wrong one ahead of it", waiting(1, 1, -1).check(1), 2);
    }

    // ---- promise 42

    @Of(promise = 42, sentence = "AN IMAGE is kept: how many ROADS.")
    static void keepOfNothingAndOfTheMost() {
        RoadsCrossed x = empty();
        due("without roads", x.keep(), 0);
        x.deal(0, 8);
        due("back", x.back(), 0);
        due("no posts", x.count(0), 0);
        due("z", x.count(5), 1);
        RoadsCrossed y = full();
        due("18", y.keep(), 18);
        y.drop(17);
        due("back", y.back(), 18);
        due("the last one's greater post", y.told(17, 2), 7);
        due("14 texts", y.count(2), 14);
    }

    @Of(promise = 42, sentence = "AN IMAGE is kept: how many ROADS.")
    static void keepAnewInPlaceOfTheImageBefore() {
        RoadsCrossed x = rich();
        due("keep", x.keep(), 4);
        x.drop(0);
        due("keep", x.keep(), 3);
        x.drop(0);
        due("the last image", x.back(), 3);
        due("again", x.back(), 3);
    }

    @Of(promise = 42, sentence = "AN IMAGE is kept: how many ROADS.")
    static void keepChangesNothingButTheImage() {
        leaves("keep behind keep", () -> {
            RoadsCrossed x = rich();
            x.keep();
            return x;
        }, x -> x.keep(), 4, () -> {
            RoadsCrossed x = rich();
            x.keep();
            return x;
        });
        leaves("keep, then back", () -> rich(), x -> x.keep() + x.back(), 8, () -> {
            RoadsCrossed x = rich();
            x.keep();
            return x;
        });
    }

    // ---- promise 43

    @Of(promise = 43, sentence = "NO: there is none.")
    static void backRefusesWithoutAnImage() {
        refused("a new object", () -> empty(), x -> x.back(), NO);
        refused("posts and roads", () -> withoutImage(1, 2, 3), x -> x.back(), NO);
        refused("sheets, slots and the tape", () -> withSheetsSlotsAndTape(crossedSquare()), x -> x.back(), NO);
    }

    @Of(promise = 43, sentence = "All is as THE IMAGE: how many ROADS.")
    static void backToNothing() {
        RoadsCrossed x = empty();
        x.keep();
        x.deal(0, 20);
        x.deal(1, 20);
        say(x, "harm 5");
        due("back", x.back(), 0);
        for (int what = 0; what <= 2; what++) {
            due("count(" + what + ")", x.count(what), 0);
        }
        due("z", x.count(5), 1);
        due("why", x.why(0), NONE);
        due("at(0)", x.at(0), BAD);
        due("post", x.post(3, 4), 0);
    }

    @Of(promise = 43, sentence = "All is as THE IMAGE: how many ROADS.")
    static void backBringsWhatWasDropped() {
        RoadsCrossed x = full();
        x.keep();
        for (int i = 0; i < 18; i++) {
            x.drop(0);
        }
        due("back", x.back(), 18);
        RoadsCrossed y = full();
        for (int road = 0; road < 18; road++) {
            due("road " + road, x.told(road, 2), y.told(road, 2));
        }
    }

    // ---- promise 44

    @Of(promise = 44, sentence = "BAD.")
    static void countRefusesAWhatThatIsNone() {
        for (int what : outside(0, 5)) {
            refused("count(" + what + ")", () -> rich(), x -> x.count(what), BAD);
            refused("count(" + what + ")", () -> empty(), x -> x.count(what), BAD);
        }
    }

    @Of(promise = 44, sentence = "How many: 0 POSTS, 1 ROADS, 2 TEXTS, 3 numbers that wait, 4 bytes of THE TAPE, 5 z.")
    static void countOfNoneOfSomeAndOfTheMost() {
        int[] none = {0, 0, 0, 0, 0, 1};
        int[] some = {6, 4, 2, 4, 6, 77};
        int[] most = {8, 18, 14, 60, 96, 1};
        for (int what = 0; what <= 5; what++) {
            int w = what;
            tellsOnly("none: count(" + w + ")", () -> empty(), x -> x.count(w), none[w]);
            tellsOnly("some: count(" + w + ")", () -> rich(), x -> x.count(w), some[w]);
            tellsOnly("the most: count(" + w + ")", () -> full(), x -> x.count(w), most[w]);
        }
        RoadsCrossed x = empty();
        x.seed(BAD);
        due("z that looks like a refusal", x.count(5), BAD);
    }
}
